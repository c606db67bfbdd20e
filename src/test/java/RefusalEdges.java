import java.util.ArrayList;
import java.util.List;
import java.util.function.Consumer;
import java.util.function.ToLongFunction;

/** Each refusal that the document names, alone and ahead of those behind it; and what is none, though it looks so. */
final class RefusalEdges extends Edges {
    private static final int TAPE = 5;
    private static final int FIRST_REFUSAL = 12;
    private static final int LEAST = Integer.MIN_VALUE;
    private static final int MOST = Integer.MAX_VALUE;

    /** What an untouched scene tells of itself. */
    private final List<Long> untouched = observed(scene());

    RefusalEdges(Checks checks, Sentences sentences) {
        super(checks, sentences);
    }

    void all() {
        shelvesOfRows();
        shelvesOfBars();
        barsAsTheyAre();
        theTape();
        movesAndWays();
        places();
        whatComes();
        minutesOfWays();
        rowsOfPictures();
        rowsOfMoves();
        inTruth();
        theTerms();
        nothingIsChanged();
    }

    // ---- the scene: four bars, shelves of each sort, a tape begun, an image that is not as things are

    private static final int TOLD_BAR = 0;
    private static final int LONG_CHAIN = 1;
    private static final int PAIR_OF_ONE = 2;
    private static final int AFTER_BAR = 3;
    private static final int NO_BAR = 4;

    private static final int SETS = 0;
    private static final int NO_SETS = 1;
    private static final int A_BAR = 2;
    private static final int FREE = 3;
    private static final int EMPTY_ROW = 4;
    private static final int TOLD_ON_IT = 5;
    private static final int MOVES = 6;
    private static final int LONG_ROW = 7;

    private static RingsOff scene() {
        RingsOff x = new RingsOff();
        x.bar(PAIR, 4);
        x.minutes(3, 33);
        x.seed(4);
        x.image();
        x.drop();
        x.minutes(3, 5);
        x.seed(-9);
        x.bar(TOLD, 3);
        x.bar(CHAIN, 7);
        x.bar(PAIR, 1);
        x.bar(AFTER, 4);
        x.move(AFTER_BAR, 3);
        x.put(TOLD_BAR, 5);
        x.table(TOLD_BAR, 1, 1, 4);
        x.table(TOLD_BAR, 2, 7, 0);
        x.stick(LONG_CHAIN, 64);
        row(x, SETS, 2, 4, 5, 0, 1, 7);
        row(x, NO_SETS, 3, 4, 8, -1, (1L << 32) + 4);
        x.show(A_BAR, AFTER_BAR);
        x.row(EMPTY_ROW, 4, 0);
        x.show(TOLD_ON_IT, TOLD_BAR);
        row(x, MOVES, 2, 0, 0, 1, 20);
        x.row(LONG_ROW, 0, 40);
        for (char letter : "minutes 2 7;move 0 0".toCharArray()) {
            x.feed(letter);
        }
        return x;
    }

    /** All that can be told of an object; what is asked last changes it. */
    private static List<Long> observed(RingsOff x) {
        List<Long> all = new ArrayList<>();
        for (int what = 0; what <= 17; what++) {
            all.add((long) x.status(what));
        }
        for (int s = 0; s < 8; s++) {
            all.add((long) x.holds(s));
            for (int i = 0; i < 6; i++) {
                all.add(x.element(s, i));
            }
        }
        observeBars(x, all);
        for (int ring = 0; ring < 10; ring++) {
            all.add((long) x.minutes(ring, 1));
        }
        all.add((long) x.bars());
        all.add((long) x.barOf(TOLD_BAR, 2));
        all.add((long) x.back());
        for (int what = 0; what <= 7; what++) {
            all.add((long) x.status(what));
        }
        observeBars(x, all);
        return all;
    }

    private static void observeBars(RingsOff x, List<Long> all) {
        for (int bar = 0; bar < x.status(0); bar++) {
            for (int what = 0; what < 4; what++) {
                all.add((long) x.barOf(bar, what));
            }
            for (int ring = 0; ring < x.barOf(bar, 1); ring++) {
                all.add((long) x.barOf(bar, 10 + ring));
                all.add((long) x.barOf(bar, 20 + ring));
            }
        }
    }

    // ---- a call on a scene of its own

    private void refused(String what, int why, ToLongFunction<RingsOff> call) {
        after(what, why, why, call);
    }

    private void calm(String what, long answer, ToLongFunction<RingsOff> call) {
        after(what, answer, 0, call);
    }

    private void after(String what, long answer, int why, ToLongFunction<RingsOff> call) {
        after(what, answer, why, call, scene(), untouched);
    }

    /** The same behind something done to the scene. */
    private void refusedBehind(String what, int why, Consumer<RingsOff> done, ToLongFunction<RingsOff> call) {
        RingsOff x = scene();
        RingsOff twin = scene();
        done.accept(x);
        done.accept(twin);
        after(what, why, why, call, x, observed(twin));
    }

    /** The answer is as due, the refusal is counted once (0: none is), and nothing else is another. */
    private void after(String what, long answer, int why, ToLongFunction<RingsOff> call, RingsOff x, List<Long> ahead) {
        due(what, call.applyAsLong(x), answer);
        List<Long> seen = observed(x);
        due(what + ": as much to tell", seen.size(), ahead.size());
        for (int i = 0; i < Math.min(seen.size(), ahead.size()); i++) {
            long want = ahead.get(i) + (why != 0 && i == FIRST_REFUSAL - 2 - why ? 1 : 0);
            due(what + ": changes nothing, " + i, seen.get(i), want);
        }
    }

    private interface OfBar {
        long ask(RingsOff x, int bar);
    }

    private void noBar(OfBar call) {
        for (int bar : new int[] {-1, NO_BAR, LEAST, MOST}) {
            refused("no bar " + bar, BAD, x -> call.ask(x, bar));
        }
    }

    private interface OfSet {
        long ask(RingsOff x, int set);
    }

    /** Of the TOLD bar of three rings. */
    private void noSet(OfSet call) {
        for (int set : new int[] {-1, 8, LEAST, MOST, 1024}) {
            refused("no set " + set, BAD, x -> call.ask(x, set));
        }
    }

    private void noRing(OfSet call) {
        for (int ring : new int[] {-1, 3, 10, LEAST, MOST}) {
            refused("no ring " + ring, BAD, x -> call.ask(x, ring));
        }
    }

    private interface OfShelf {
        long ask(RingsOff x, int s);
    }

    private void noShelf(OfShelf call) {
        for (int s : new int[] {-1, 8, LEAST, MOST}) {
            refused("no shelf " + s, BAD, x -> call.ask(x, s));
        }
    }

    /** Below the least and above the most. */
    private void not(int least, int most, OfSet call) {
        for (int v : new int[] {least - 1, most + 1, LEAST, MOST}) {
            refused("not " + v, BAD, x -> call.ask(x, v));
        }
    }

    // ---- shelves

    private void shelvesOfRows() {
        promise(2);
        says("BAD.");
        noShelf((x, s) -> x.row(s, 0, 1));
        not(0, 4, (x, sort) -> x.row(SETS, sort, 1));
        not(0, 40, (x, n) -> x.row(SETS, 0, n));
        not(0, 40, (x, n) -> x.row(A_BAR, 0, n));

        promise(3);
        says("BAD SHELF; OTHER; NOTHING; BAD i.");
        noShelf((x, s) -> x.set(s, 0, 1));
        refused("a bar", OTHER, x -> x.set(A_BAR, 0, 1));
        refused("a bar ahead of no place", OTHER, x -> x.set(A_BAR, -1, 1));
        refused("nothing", NOTHING, x -> x.set(FREE, 0, 1));
        refused("nothing ahead of no place", NOTHING, x -> x.set(FREE, 40, 1));
        not(0, 4, (x, i) -> x.set(SETS, i, 1));
        not(0, 39, (x, i) -> x.set(LONG_ROW, i, 1));
        refused("a row of none", BAD, x -> x.set(EMPTY_ROW, 0, 1));

        promise(4);
        says("BAD SHELVES; OTHER (also ROWS of two SORTS, if both hold something); NOTHING; BAD the others.");
        noShelf((x, s) -> x.copy(s, SETS, 0, 0, 1));
        noShelf((x, s) -> x.copy(SETS, s, 0, 0, 1));
        refused("no shelf ahead of a bar", BAD, x -> x.copy(A_BAR, 8, 0, 0, 1));
        refused("a bar to take from", OTHER, x -> x.copy(A_BAR, SETS, 0, 0, 1));
        refused("a bar to put to", OTHER, x -> x.copy(SETS, A_BAR, 0, 0, 1));
        refused("one bar twice", OTHER, x -> x.copy(A_BAR, A_BAR, 0, 0, 0));
        refused("two bars", OTHER, x -> x.copy(A_BAR, TOLD_ON_IT, 0, 0, 0));
        refused("a bar ahead of nothing", OTHER, x -> x.copy(A_BAR, FREE, 0, 0, 1));
        refused("a bar behind nothing", OTHER, x -> x.copy(FREE, A_BAR, 0, 0, 1));
        refused("two sorts", OTHER, x -> x.copy(SETS, NO_SETS, 0, 0, 1));
        refused("two sorts of one size", OTHER, x -> x.copy(NO_SETS, SETS, 0, 0, 1));
        refused("two sorts, none to copy", OTHER, x -> x.copy(SETS, EMPTY_ROW, 0, 0, 0));
        refused("two sorts ahead of no place", OTHER, x -> x.copy(SETS, NO_SETS, -1, 0, 1));
        refused("nothing to take from", NOTHING, x -> x.copy(FREE, SETS, 0, 0, 1));
        refused("nothing to put to", NOTHING, x -> x.copy(SETS, FREE, 0, 0, 1));
        refused("nothing at all", NOTHING, x -> x.copy(FREE, FREE, 0, 0, 0));
        refused("nothing ahead of no place", NOTHING, x -> x.copy(SETS, FREE, -1, -1, -1));
        not(0, 4, (x, i) -> x.copy(SETS, MOVES, i, 0, 1));
        not(0, 3, (x, j) -> x.copy(SETS, MOVES, 0, j, 1));
        not(0, 4, (x, n) -> x.copy(SETS, MOVES, 0, 0, n));
        not(0, 3, (x, n) -> x.copy(SETS, MOVES, 2, 0, n));
        not(0, 2, (x, n) -> x.copy(SETS, MOVES, 0, 2, n));
        refused("none, from behind the end", BAD, x -> x.copy(SETS, MOVES, 6, 0, 0));
        refused("none, to behind the end", BAD, x -> x.copy(SETS, MOVES, 0, 5, 0));
        refused("so many that they wrap", BAD, x -> x.copy(SETS, MOVES, MOST, MOST, 2));
        refused("so far that it wraps", BAD, x -> x.copy(SETS, MOVES, 1, 1, MOST));
        calm("none, just at both ends", 0, x -> x.copy(SETS, MOVES, 5, 4, 0));
        calm("in its own place", 5, x -> x.copy(SETS, SETS, 0, 0, 5));
    }

    private void shelvesOfBars() {
        promise(7);
        says("BAD.");
        noShelf((x, s) -> x.show(s, TOLD_BAR));
        noShelf((x, s) -> x.show(s, NONE));
        for (int bar : new int[] {-2, NO_BAR, LEAST, MOST}) {
            refused("no bar " + bar, BAD, x -> x.show(FREE, bar));
            refused("no bar " + bar, BAD, x -> x.show(SETS, bar));
        }

        promise(8);
        says("BAD SHELF, KIND; OTHER (also if it is of no such KIND nor of one under it); NOTHING.");
        noShelf((x, s) -> x.says(s, BAR));
        not(0, 5, (x, kind) -> x.says(A_BAR, kind));
        refused("no kind ahead of a row", BAD, x -> x.says(SETS, 6));
        refused("no kind ahead of nothing", BAD, x -> x.says(FREE, -1));
        for (int kind = 0; kind <= 5; kind++) {
            int wanted = kind;
            refused("a row", OTHER, x -> x.says(SETS, wanted));
            refused("a row of none", OTHER, x -> x.says(EMPTY_ROW, wanted));
            refused("nothing", NOTHING, x -> x.says(FREE, wanted));
        }
        int[] ofTold = {2, OTHER, OTHER, OTHER, OTHER, 2};
        int[] ofAfter = {3, 11, OTHER, OTHER, 2, OTHER};
        for (int kind = 0; kind <= 5; kind++) {
            int wanted = kind;
            said("TOLD for " + kind, ofTold[kind], x -> x.says(TOLD_ON_IT, wanted));
            said("AFTER for " + kind, ofAfter[kind], x -> x.says(A_BAR, wanted));
        }
        says("(NONE isn't refused.)");
        RingsOff never = stuck(PAIR, 3, 4, 4);
        never.show(0, 0);
        none("never all off", never, x -> x.says(0, PAIR));
        RingsOff off = with(AFTER, 3, 0);
        off.show(0, 0);
        none("none is on", off, x -> x.says(0, AFTER));
    }

    private void said(String what, int answer, ToLongFunction<RingsOff> call) {
        after(what, answer, answer == OTHER ? OTHER : 0, call);
    }

    /** An answer NONE that is no refusal. */
    private void none(String what, RingsOff x, ToLongFunction<RingsOff> call) {
        due(what, call.applyAsLong(x), NONE);
        for (int why = 0; why < 5; why++) {
            due(what + ": not refused", x.status(FIRST_REFUSAL + why), 0);
        }
    }

    // ---- bars and the tape

    private void barsAsTheyAre() {
        promise(9);
        says("BAD; FULL.");
        refused("a fifth", FULL, x -> x.bar(BAR, 1));
        not(0, 5, (x, kind) -> x.bar(kind, 1));
        not(1, 10, (x, size) -> x.bar(BAR, size));
        due("no kind, with room", new RingsOff().bar(6, 1), BAD);
        due("no size, with room", new RingsOff().bar(5, 11), BAD);

        promise(10);
        says("BAD.");
        noBar((x, bar) -> x.put(bar, 0));
        noSet((x, set) -> x.put(TOLD_BAR, set));
        refused("more than the one ring", BAD, x -> x.put(PAIR_OF_ONE, 2));

        promise(11);
        says("BAD.");
        noBar((x, bar) -> x.stick(bar, 0));
        noSet((x, set) -> x.stick(TOLD_BAR, set));
        refused("more than the one ring", BAD, x -> x.stick(PAIR_OF_ONE, 2));

        promise(12);
        says("BAD; STUCK: it isn't TOLD.");
        noBar((x, bar) -> x.table(bar, 0, 0, 0));
        noRing((x, ring) -> x.table(TOLD_BAR, ring, 0, 0));
        noSet((x, set) -> x.table(TOLD_BAR, 0, set, 0));
        noSet((x, set) -> x.table(TOLD_BAR, 0, 0, set));
        for (int bar = LONG_CHAIN; bar <= AFTER_BAR; bar++) {
            int other = bar;
            refused("not told", STUCK, x -> x.table(other, 0, 0, 0));
            refused("no ring ahead of not told", BAD, x -> x.table(other, 7, 0, 0));
            refused("no must ahead of not told", BAD, x -> x.table(other, 0, -1, 0));
            refused("no not ahead of not told", BAD, x -> x.table(other, 0, 0, 128));
        }

        promise(13);
        says("BAD.");
        not(0, 9, (x, ring) -> x.minutes(ring, 1));
        not(0, 99, (x, v) -> x.minutes(2, v));

        promise(17);
        says("BAD.");
        noBar((x, bar) -> x.barOf(bar, 0));
        for (int what : new int[] {-1, 4, 5, 9, 13, 19, 23, 29, 30, LEAST, MOST}) {
            refused("no what " + what, BAD, x -> x.barOf(TOLD_BAR, what));
        }
        for (int what : new int[] {11, 19, 21, 30}) {
            refused("no ring of the one " + what, BAD, x -> x.barOf(PAIR_OF_ONE, what));
        }
        calm("of one that isn't told", 0, x -> x.barOf(LONG_CHAIN, 26));
    }

    private void theTape() {
        promise(14);
        says("BAD; FULL.");
        not(0, 255, (x, letter) -> x.feed(letter));
        RingsOff x = new RingsOff();
        for (int i = 0; i < 250; i++) {
            x.feed(' ');
        }
        due("full", x.feed(0), FULL);
        due("no byte ahead of full", x.feed(256), BAD);
        due("no byte ahead of full", x.feed(-1), BAD);
        due("refused as full", x.status(FIRST_REFUSAL + 4), 1);
        due("refused as bad", x.status(FIRST_REFUSAL), 2);
        due("as full as before", x.status(TAPE), 250);
        due("room again", x.wipe(), 250);
        due("room again", x.feed(255), 1);
    }

    // ---- moves, ways, places

    private void movesAndWays() {
        promise(18);
        says("BAD: also 20 of a BAR that is no PAIR, or of SIZE 1.");
        noMove(RingsOff::may);
        calm("may not", 0, x -> x.may(LONG_CHAIN, 6));

        promise(19);
        says("BAD.");
        noBar(RingsOff::moves);

        promise(20);
        says("BAD as may(); STUCK.");
        noMove(RingsOff::move);
        refused("by its law", STUCK, x -> x.move(LONG_CHAIN, 2));
        refused("by its table", STUCK, x -> x.move(TOLD_BAR, 1));
        refused("a stuck ring", STUCK, x -> x.move(LONG_CHAIN, 6));
        RingsOff pair = with(PAIR, 2, 1);
        due("20 of one on", pair.move(0, BOTH), STUCK);
        due("still on", pair.barOf(0, 2), 1);

        promise(21);
        says("BAD. (NONE isn't refused.)");
        noBar((x, bar) -> x.fewest(bar, 0));
        noSet((x, set) -> x.fewest(TOLD_BAR, set));
        calm("never", NONE, x -> x.fewest(TOLD_BAR, 0));

        promise(22);
        says("BAD, also i below 0; STUCK: no such MOVE, no WAY.");
        noBar((x, bar) -> x.way(bar, 0, 0));
        noSet((x, set) -> x.way(TOLD_BAR, set, 0));
        refused("i below 0", BAD, x -> x.way(TOLD_BAR, 4, -1));
        refused("i least", BAD, x -> x.way(TOLD_BAR, 4, LEAST));
        refused("i below 0 ahead of no way", BAD, x -> x.way(TOLD_BAR, 0, -1));
        refused("behind the last", STUCK, x -> x.way(TOLD_BAR, 4, 1));
        refused("far behind", STUCK, x -> x.way(TOLD_BAR, 4, MOST));
        refused("there already", STUCK, x -> x.way(TOLD_BAR, 5, 0));
        refused("no way", STUCK, x -> x.way(TOLD_BAR, 0, 0));
        calm("the last", 0, x -> x.way(TOLD_BAR, 4, 0));

        promise(23);
        says("BAD. (NONE isn't refused.)");
        noBar((x, bar) -> x.between(bar, 0, 0));
        noSet((x, set) -> x.between(TOLD_BAR, set, 0));
        noSet((x, set) -> x.between(TOLD_BAR, 0, set));
        calm("never", NONE, x -> x.between(TOLD_BAR, 5, 0));
    }

    private void noMove(ToMove call) {
        noBar((x, bar) -> call.ask(x, bar, 0));
        noBar((x, bar) -> call.ask(x, bar, BOTH));
        noRing((x, ring) -> call.ask(x, TOLD_BAR, ring));
        for (int bar = 0; bar < 4; bar++) {
            int other = bar;
            refused("20 of bar " + bar, BAD, x -> call.ask(x, other, BOTH));
            refused("19 of bar " + bar, BAD, x -> call.ask(x, other, 19));
            refused("21 of bar " + bar, BAD, x -> call.ask(x, other, 21));
        }
        refused("ring 1 of one", BAD, x -> call.ask(x, PAIR_OF_ONE, 1));
    }

    private interface ToMove {
        long ask(RingsOff x, int bar, int move);
    }

    private void places() {
        promise(24);
        says("-2 a SET below 0, or of more rings (that is refused).");
        long[] none = {-1, Long.MIN_VALUE, 1L << 60, (1L << 60) + 1, Long.MAX_VALUE, -1L << 32};
        for (long set : none) {
            refused("no set " + set, BAD, x -> x.place(set));
        }
        calm("the last", 768614336404564650L, x -> x.place((1L << 60) - 1));

        promise(25);
        says("-2 a PLACE below 0, or of more rings (that is refused).");
        for (long place : none) {
            refused("no place " + place, BAD, x -> x.setOf(place));
        }
        calm("the last", 1L << 59, x -> x.setOf((1L << 60) - 1));
    }

    // ---- what comes of it

    private void whatComes() {
        promise(26);
        says("BAD.");
        noBar(RingsOff::reach);

        promise(27);
        says("BAD.");
        noBar((x, bar) -> x.farthest(bar, 0));
        not(0, 1, (x, what) -> x.farthest(TOLD_BAR, what));

        promise(28);
        says("BAD.");
        noBar(RingsOff::shape);

        promise(29);
        says("BAD.");
        noBar(RingsOff::parts);

        promise(30);
        says("BAD; STUCK: SIZE above 6.");
        noBar(RingsOff::longest);
        refused("seven rings", STUCK, x -> x.longest(LONG_CHAIN));

        promise(31);
        says("BAD.");
        not(1, 10, RingsOff::save);

        promise(32);
        says("BAD; STUCK: it is no CHAIN, or something is STUCK.");
        noBar(RingsOff::luck);
        refused("something stuck", STUCK, x -> x.luck(LONG_CHAIN));
        refused("a TOLD", STUCK, x -> x.luck(TOLD_BAR));
        refused("a PAIR", STUCK, x -> x.luck(PAIR_OF_ONE));
        refused("an AFTER", STUCK, x -> x.luck(AFTER_BAR));

        promise(36);
        says("BAD.");
        noBar(RingsOff::movable);

        promise(37);
        says("BAD.");
        noBar(RingsOff::ends);

        promise(38);
        says("BAD. (NONE isn't refused.)");
        noBar((x, bar) -> x.first(bar, 0));
        noRing((x, ring) -> x.first(TOLD_BAR, ring));
        refused("ring 1 of one", BAD, x -> x.first(PAIR_OF_ONE, 1));
        calm("never", NONE, x -> x.first(LONG_CHAIN, 6));

        promise(39);
        says("BAD.");
        noBar((x, bar) -> x.chance(bar, 0, 0));
        noSet((x, set) -> x.chance(TOLD_BAR, set, 0));
        not(0, 20, (x, m) -> x.chance(TOLD_BAR, 0, m));
    }

    private void minutesOfWays() {
        promise(33);
        says("BAD. (NONE isn't refused.)");
        noBar((x, bar) -> x.time(bar, 0));
        noSet((x, set) -> x.time(TOLD_BAR, set));
        calm("no way", NONE, x -> x.time(TOLD_BAR, 0));

        promise(34);
        says("BAD ring, k below 1. (NONE isn't refused.)");
        noBar((x, bar) -> x.bell(bar, 0, 1));
        noRing((x, ring) -> x.bell(TOLD_BAR, ring, 1));
        refused("k 0", BAD, x -> x.bell(AFTER_BAR, 0, 0));
        refused("k below", BAD, x -> x.bell(AFTER_BAR, 0, -1));
        refused("k least", BAD, x -> x.bell(AFTER_BAR, 0, LEAST));
        refused("k 0, with no way", BAD, x -> x.bell(TOLD_BAR, 0, 0));
        calm("no way", NONE, x -> x.bell(TOLD_BAR, 0, 1));
        calm("not so often", NONE, x -> x.bell(AFTER_BAR, 0, MOST));

        promise(35);
        says("BAD. (NONE isn't refused.)");
        not(0, 99999, RingsOff::lock);
        calm("so long takes none", NONE, x -> x.lock(99999));
    }

    // ---- rows

    private interface OfRow {
        long ask(RingsOff x, int s, int n, int bar);
    }

    /** What pictures and moves have alike; the least and most n are told. */
    private void noRow(int least, int most, OfRow call) {
        noShelf((x, s) -> call.ask(x, s, least, TOLD_BAR));
        not(least, most, (x, n) -> call.ask(x, LONG_ROW, n, TOLD_BAR));
        noBar((x, bar) -> call.ask(x, SETS, least, bar));
        refused("no n ahead of a bar", BAD, x -> call.ask(x, A_BAR, most + 1, TOLD_BAR));
        refused("no n ahead of nothing", BAD, x -> call.ask(x, FREE, least - 1, TOLD_BAR));
        refused("no bar ahead of a bar", BAD, x -> call.ask(x, A_BAR, 1, NO_BAR));
        refused("no bar ahead of nothing", BAD, x -> call.ask(x, FREE, 1, -1));
        refused("a bar", OTHER, x -> call.ask(x, A_BAR, 1, TOLD_BAR));
        refused("a bar, the most", OTHER, x -> call.ask(x, TOLD_ON_IT, most, TOLD_BAR));
        refused("nothing", NOTHING, x -> call.ask(x, FREE, 1, TOLD_BAR));
        refused("nothing, the most", NOTHING, x -> call.ask(x, FREE, most, TOLD_BAR));
        refused("one element fewer", BAD, x -> call.ask(x, MOVES, 5, TOLD_BAR));
        refused("no elements", BAD, x -> call.ask(x, EMPTY_ROW, 1, TOLD_BAR));
    }

    private void noPictures(OfRow call) {
        noRow(1, 10, call);
        refused("no set, too great", BAD, x -> call.ask(x, NO_SETS, 2, TOLD_BAR));
        refused("no set behind one that is broken", BAD, x -> call.ask(x, NO_SETS, 3, TOLD_BAR));
        refused("no set of a smaller bar", BAD, x -> call.ask(x, SETS, 1, PAIR_OF_ONE));
        for (long set : new long[] {-1, 8, 1L << 32, Long.MIN_VALUE, Long.MAX_VALUE}) {
            refusedBehind("no set " + set, BAD, x -> x.set(NO_SETS, 0, set), x -> call.ask(x, NO_SETS, 1, TOLD_BAR));
        }
        refusedBehind("a byte with its sign", BAD, x -> x.set(LONG_ROW, 9, 255),
                x -> call.ask(x, LONG_ROW, 10, LONG_CHAIN));
        refused("fewer, and no sets", BAD, x -> call.ask(x, NO_SETS, 5, TOLD_BAR));
    }

    private void rowsOfPictures() {
        promise(40);
        says("BAD SHELF, n, BAR; OTHER; NOTHING; BAD: fewer elements, no SETS. (NONE isn't refused.)");
        noPictures(RingsOff::pictures);
        calm("all that there are", 2, x -> x.pictures(SETS, 2, TOLD_BAR));
        calm("a set, whatever is behind it", 1, x -> x.pictures(NO_SETS, 1, TOLD_BAR));
        calm("one is broken", NONE, x -> x.pictures(SETS, 5, TOLD_BAR));

        promise(41);
        says("As pictures().");
        noPictures(RingsOff::broken);
        calm("none is broken", NONE, x -> x.broken(SETS, 2, TOLD_BAR));
        calm("the third", 2, x -> x.broken(SETS, 5, TOLD_BAR));

        promise(42);
        says("As pictures(); STUCK: none is BROKEN.");
        noPictures(RingsOff::once);
        refused("none is broken", STUCK, x -> x.once(SETS, 2, TOLD_BAR));
        calm("the third, by ring 1", 1, x -> x.once(SETS, 3, TOLD_BAR));
    }

    private void rowsOfMoves() {
        promise(43);
        says("BAD SHELF, n, BAR; OTHER; NOTHING; BAD: fewer elements.");
        noRow(0, 40, RingsOff::judge);
        calm("none of none", NONE, x -> x.judge(EMPTY_ROW, 0, TOLD_BAR));
        calm("all may be", NONE, x -> x.judge(MOVES, 2, TOLD_BAR));
        calm("the third may not", 2, x -> x.judge(MOVES, 4, TOLD_BAR));
        calm("no such ring", 0, x -> x.judge(SETS, 5, TOLD_BAR));

        promise(44);
        says("BAD; OTHER; NOTHING; BAD likewise; STUCK: one MAY not be.");
        noRow(0, 40, RingsOff::behind);
        notMade(RingsOff::behind);

        promise(45);
        says("As behind().");
        noRow(0, 40, RingsOff::moved);
        notMade(RingsOff::moved);
    }

    private void notMade(OfRow call) {
        calm("none of them", 5, x -> call.ask(x, MOVES, 0, TOLD_BAR));
        calm("none of none", 5, x -> call.ask(x, EMPTY_ROW, 0, TOLD_BAR));
        refused("the third may not", STUCK, x -> call.ask(x, MOVES, 3, TOLD_BAR));
        refused("20 of no PAIR, and no more", STUCK, x -> call.ask(x, MOVES, 4, AFTER_BAR));
        refused("no such ring", STUCK, x -> call.ask(x, SETS, 1, TOLD_BAR));
        refused("fewer ahead of one that may not", BAD, x -> call.ask(x, MOVES, 5, TOLD_BAR));
        for (long move : new long[] {-1, 3, 1L << 32, Long.MIN_VALUE, Long.MAX_VALUE}) {
            refusedBehind("no move " + move, STUCK, x -> x.set(NO_SETS, 0, move),
                    x -> call.ask(x, NO_SETS, 1, TOLD_BAR));
        }
    }

    // ---- in truth

    private void inTruth() {
        promise(46);
        says("BAD; STUCK: SIZE above 3. (NONE isn't refused.)");
        noBar((x, bar) -> x.game(bar, 0));
        not(0, 1, (x, what) -> x.game(TOLD_BAR, what));
        not(0, 1, (x, what) -> x.game(LONG_CHAIN, what));
        refused("four rings", STUCK, x -> x.game(AFTER_BAR, 0));
        refused("seven rings", STUCK, x -> x.game(LONG_CHAIN, 1));
        none("none wins", stuck(BAR, 3, 0, 7), x -> x.game(0, 1));

        promise(47);
        says("BAD; STUCK: there is no WAY.");
        noBar((x, bar) -> x.goes(bar, 0, 1));
        noSet((x, set) -> x.goes(TOLD_BAR, set, 1));
        not(1, 60, (x, n) -> x.goes(TOLD_BAR, 4, n));
        not(1, 60, (x, n) -> x.goes(TOLD_BAR, 0, n));
        refused("no way", STUCK, x -> x.goes(TOLD_BAR, 0, 1));
        calm("there already", 0, x -> x.goes(TOLD_BAR, 5, 60));

        promise(48);
        says("BAD.");
        noBar((x, bar) -> x.play(bar, 1));
        not(1, 60, (x, n) -> x.play(TOLD_BAR, n));
        RingsOff still = stuck(BAR, 3, 0, 7);
        due("none may be", still.play(0, 60), 0);
        due("that isn't refused", still.status(FIRST_REFUSAL + 3), 0);

        promise(49);
        says("STUCK: there is none.");
        refusedBehind("no bar is left", STUCK, RefusalEdges::dropAll, RingsOff::drop);
        due("none from the first", new RingsOff().drop(), STUCK);

        promise(52);
        says("STUCK: nothing was.");
        RingsOff x = with(CHAIN, 3, 2);
        due("nothing kept", x.back(), STUCK);
        due("again", x.back(), STUCK);
        due("refused", x.status(FIRST_REFUSAL + 3), 2);
        due("as it was", x.barOf(0, 2), 2);
        due("kept", x.image(), 1);
        due("then not stuck", x.back(), 1);
    }

    private static void dropAll(RingsOff x) {
        for (int left = 4; left > 0; left--) {
            x.drop();
        }
    }

    // ---- the terms

    private void theTerms() {
        terms();
        says("REFUSALS (the call answers the number; nothing changes but how many there were; the first that fits as "
                + "each line has them):");
        List<ToLongFunction<RingsOff>> calls = List.of(x -> x.set(8, 0, 0), x -> x.set(A_BAR, 0, 0),
                x -> x.set(FREE, 0, 0), x -> x.move(LONG_CHAIN, 2), x -> x.bar(BAR, 1));
        RingsOff x = scene();
        for (int times = 1; times <= 3; times++) {
            for (int i = 0; i < 5; i++) {
                due("the number", calls.get(i).applyAsLong(x), BAD - i);
                due("how many there were", x.status(FIRST_REFUSAL + i), times);
            }
        }
        says("-2 BAD a number that may not be, nothing of that number.");
        refused("may not be", BAD, y -> y.bar(6, 1));
        refused("nothing of that number", BAD, y -> y.moves(NO_BAR));
        says("-3 OTHER: a SHELF that holds another thing than is wanted.");
        refused("a bar, a row is wanted", OTHER, y -> y.judge(A_BAR, 0, TOLD_BAR));
        refused("a row, a bar is wanted", OTHER, y -> y.says(EMPTY_ROW, BAR));
        refused("a bar of another kind", OTHER, y -> y.says(A_BAR, TWO));
        says("-4 NOTHING: a SHELF that holds NOTHING.");
        refused("a row is wanted", NOTHING, y -> y.judge(FREE, 0, TOLD_BAR));
        refused("a bar is wanted", NOTHING, y -> y.says(FREE, TWO));
        says("-5 STUCK: it can't be as things stand.");
        refused("a stuck ring", STUCK, y -> y.move(LONG_CHAIN, 6));
        says("-6 FULL.");
        refused("four bars", FULL, y -> y.bar(TOLD, 10));
    }

    private void nothingIsChanged() {
        terms();
        says("3. WHAT COMES OF IT (in thought; nothing is changed)");
        for (int bar = 0; bar < 4; bar++) {
            int of = bar;
            List<ToLongFunction<RingsOff>> calls = List.of(x -> x.moves(of), x -> x.may(of, 0), x -> x.fewest(of, 1),
                    x -> x.way(of, 6, 0), x -> x.between(of, 1, 0), x -> x.reach(of),
                    x -> x.farthest(of, 0), x -> x.farthest(of, 1), x -> x.shape(of), x -> x.parts(of),
                    x -> x.longest(of == LONG_CHAIN ? 0 : of), x -> x.time(of, 1), x -> x.bell(of, 0, 1),
                    x -> x.movable(of), x -> x.ends(of), x -> x.first(of, 0), x -> x.chance(of, 0, 20),
                    x -> x.pictures(LONG_ROW, 10, of), x -> x.broken(LONG_ROW, 10, of), x -> x.judge(MOVES, 4, of),
                    x -> x.behind(LONG_ROW, 0, of), x -> x.game(of % 2 == 0 ? of : 0, 1), x -> x.save(of + 1),
                    x -> x.lock(of * 100), x -> x.barOf(of, 3), x -> x.holds(of), x -> x.element(of, 0),
                    x -> x.place(of), x -> x.setOf(of), x -> x.status(of));
            for (int i = 0; i < calls.size(); i++) {
                RingsOff x = scene();
                long answer = calls.get(i).applyAsLong(x);
                String what = "call " + i + " of bar " + bar;
                due(what + ", again", calls.get(i).applyAsLong(x), answer);
                if (answer >= NONE) {
                    calm(what, answer, calls.get(i));
                }
            }
        }
        calm("once", 1, x -> x.once(SETS, 3, TOLD_BAR));
        RingsOff chain = with(CHAIN, 3, 5);
        due("luck", chain.luck(0), 6 * (14 - 6));
        due("on as before", chain.barOf(0, 2), 5);
        due("none moved", chain.status(3), 0);
        due("none drawn", chain.status(6), 1);
    }
}
