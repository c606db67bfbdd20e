import java.util.Arrays;

/** Bars with rings that go on and off by laws; README.md tells how it is used. */
public final class RingsOff {
    public static final int NONE = -1;

    private static final int BAD = -2;
    private static final int OTHER = -3;
    private static final int NOTHING = -4;
    private static final int STUCK = -5;
    private static final int FULL = -6;

    private static final int BAR = 0;
    private static final int CHAIN = 1;
    private static final int PAIR = 2;
    private static final int TWO = 3;
    private static final int AFTER = 4;
    private static final int TOLD = 5;

    private static final int MOST_BARS = 4;
    private static final int MOST_RINGS = 10;
    private static final int MOST_SETS = 1024;
    private static final int MOST_MINUTES = 99;
    private static final int MOST_PICTURES = 10;
    private static final int MOST_MOVES = 60;
    private static final int MOST_CHANCES = 20;
    private static final int MOST_LOCK = 99999;
    private static final int LONGEST_RINGS = 6;
    private static final int GAME_RINGS = 3;
    private static final int GAME_SETS = 8;
    private static final int BOTH = 20;
    private static final int MUST_OF = 10;
    private static final int NOT_OF = 20;
    private static final int REFUSED = 12;
    private static final int LETTERS = 256;
    private static final long LINE_SETS = 1L << 60;
    private static final int WHOLE_CHANCE = 1_000_000;

    private static final int ONWARD = 1;
    private static final int BACKWARD = 2;
    private static final int EITHER_WAY = ONWARD | BACKWARD;

    private final Evening now = new Evening();
    private final Evening kept = new Evening();
    private final Evening draft = new Evening();
    private final Shelves shelves = new Shelves();
    private final Tape tape = new Tape();
    private final Law law = new Law();
    private final Search search = new Search();
    private final int[] refusals = new int[5];
    private boolean imageStands = false;

    public RingsOff() {
    }

    // ---- shelves

    public int row(int s, int sort, int n) {
        if (!Shelves.isShelf(s) || sort < 0 || sort > Shelves.BOOLEANS || n < 0 || n > Shelves.MOST_CELLS) {
            return refuse(BAD);
        }
        shelves.holdRow(s, sort, n);
        return 1;
    }

    public int set(int s, int i, long v) {
        if (!Shelves.isShelf(s)) {
            return refuse(BAD);
        }
        if (shelves.hasBarIn(s)) {
            return refuse(OTHER);
        }
        if (shelves.isFree(s)) {
            return refuse(NOTHING);
        }
        if (!shelves.hasCells(s, i, 1)) {
            return refuse(BAD);
        }
        shelves.write(s, i, v);
        return 1;
    }

    public int copy(int p, int q, int i, int j, int n) {
        if (!Shelves.isShelf(p) || !Shelves.isShelf(q)) {
            return refuse(BAD);
        }
        if (shelves.hasBarIn(p) || shelves.hasBarIn(q) || shelves.differ(p, q)) {
            return refuse(OTHER);
        }
        if (shelves.isFree(p) || shelves.isFree(q)) {
            return refuse(NOTHING);
        }
        if (!shelves.hasCells(p, i, n) || !shelves.hasCells(q, j, n)) {
            return refuse(BAD);
        }
        shelves.carry(p, q, i, j, n);
        return n;
    }

    public long element(int s, int i) {
        return shelves.cell(s, i);
    }

    public int holds(int s) {
        return shelves.heldBy(s);
    }

    public int show(int s, int bar) {
        if (!Shelves.isShelf(s) || (bar != NONE && !now.hasBar(bar))) {
            return refuse(BAD);
        }
        if (bar == NONE) {
            shelves.free(s);
        } else {
            shelves.holdBar(s, bar);
        }
        return 1;
    }

    public int says(int s, int kind) {
        if (!Shelves.isShelf(s) || kind < BAR || kind > TOLD) {
            return refuse(BAD);
        }
        int bar = shelves.barIn(s);
        if (shelves.hasRowIn(s) || (bar != NONE && !isUnder(now.kindOf(bar), kind))) {
            return refuse(OTHER);
        }
        if (!now.hasBar(bar)) {
            return refuse(NOTHING);
        }
        return sayingOf(bar, kind, now.onOf(bar));
    }

    private int sayingOf(int bar, int kind, int on) {
        switch (kind) {
            case CHAIN:
                return (int) grayPlace(now.kindOf(bar) == AFTER ? turned(on, now.sizeOf(bar)) : on);
            case PAIR:
                return leadTo(bar, on, 0);
            case TWO:
                return Integer.bitCount(legalNow(bar));
            case AFTER:
                return lastRing(on);
            case TOLD:
                return now.tabledRings(bar);
            default:
                return Integer.bitCount(on);
        }
    }

    // ---- bars as they are

    public int bar(int kind, int size) {
        if (kind < BAR || kind > TOLD || size < 1 || size > MOST_RINGS) {
            return refuse(BAD);
        }
        if (now.hasMostBars()) {
            return refuse(FULL);
        }
        return now.addBar(kind, size);
    }

    public int put(int bar, int set) {
        if (!now.hasSet(bar, set)) {
            return refuse(BAD);
        }
        int were = now.onOf(bar);
        now.turnOn(bar, set);
        return were;
    }

    public int stick(int bar, int set) {
        if (!now.hasSet(bar, set)) {
            return refuse(BAD);
        }
        int were = now.stuckOf(bar);
        now.fasten(bar, set);
        return were;
    }

    public int table(int bar, int ring, int must, int not) {
        if (!now.hasRing(bar, ring) || !now.hasSet(bar, must) || !now.hasSet(bar, not)) {
            return refuse(BAD);
        }
        if (now.kindOf(bar) != TOLD) {
            return refuse(STUCK);
        }
        now.tell(bar, ring, must, not);
        return 1;
    }

    public int minutes(int ring, int v) {
        if (ring < 0 || ring >= MOST_RINGS || v < 0 || v > MOST_MINUTES) {
            return refuse(BAD);
        }
        int were = now.minutesOf(ring);
        now.setMinutes(ring, v);
        return were;
    }

    public int barOf(int bar, int what) {
        if (!now.hasBar(bar)) {
            return refuse(BAD);
        }
        switch (what) {
            case 0:
                return now.kindOf(bar);
            case 1:
                return now.sizeOf(bar);
            case 2:
                return now.onOf(bar);
            case 3:
                return now.stuckOf(bar);
            default:
                break;
        }
        if (what >= NOT_OF && now.hasRing(bar, what - NOT_OF)) {
            return now.notOf(bar, what - NOT_OF);
        }
        if (what >= MUST_OF && now.hasRing(bar, what - MUST_OF)) {
            return now.mustOf(bar, what - MUST_OF);
        }
        return refuse(BAD);
    }

    // ---- the tape

    public int feed(int letter) {
        if (letter < 0 || letter >= LETTERS) {
            return refuse(BAD);
        }
        if (tape.isFull()) {
            return refuse(FULL);
        }
        return tape.append(letter);
    }

    public int wipe() {
        int ahead = tape.size;
        tape.clear();
        return ahead;
    }

    public int bars() {
        draft.become(now);
        int statements = tape.readInto(draft, law);
        int fault = tape.start;
        tape.clear();
        if (statements == NONE) {
            refuse(BAD);
            return -20 - fault;
        }
        now.become(draft);
        return statements;
    }

    // ---- moves

    public int may(int bar, int move) {
        if (!now.hasMove(bar, move)) {
            return refuse(BAD);
        }
        return hasBit(legalNow(bar), move) ? 1 : 0;
    }

    public int moves(int bar) {
        if (!now.hasBar(bar)) {
            return refuse(BAD);
        }
        return legalNow(bar);
    }

    public int move(int bar, int move) {
        if (!now.hasMove(bar, move)) {
            return refuse(BAD);
        }
        if (!hasBit(legalNow(bar), move)) {
            return refuse(STUCK);
        }
        now.makeMove(bar, move);
        return now.onOf(bar);
    }

    public int fewest(int bar, int set) {
        if (!now.hasSet(bar, set)) {
            return refuse(BAD);
        }
        return leadTo(bar, now.onOf(bar), set);
    }

    public int way(int bar, int set, int i) {
        if (!now.hasSet(bar, set) || i < 0) {
            return refuse(BAD);
        }
        int on = now.onOf(bar);
        if (i >= leadTo(bar, on, set)) {
            return refuse(STUCK);
        }
        for (int step = 0; step < i; step++) {
            on ^= ringsOf(search.nextMove(on));
        }
        return search.nextMove(on);
    }

    public int between(int bar, int from, int to) {
        if (!now.hasSet(bar, from) || !now.hasSet(bar, to)) {
            return refuse(BAD);
        }
        return leadTo(bar, from, to);
    }

    public long place(long set) {
        if (set < 0 || set >= LINE_SETS) {
            return refuse(BAD);
        }
        return grayPlace(set);
    }

    public long setOf(long place) {
        if (place < 0 || place >= LINE_SETS) {
            return refuse(BAD);
        }
        return place ^ place >> 1;
    }

    // ---- all that can be come to

    public int reach(int bar) {
        if (!now.hasBar(bar)) {
            return refuse(BAD);
        }
        spreadFromNow(bar);
        return search.found;
    }

    public int farthest(int bar, int what) {
        if (!now.hasBar(bar) || what < 0 || what > 1) {
            return refuse(BAD);
        }
        spreadFromNow(bar);
        int set = search.farthestSet();
        return what == 0 ? set : search.farOf(set);
    }

    public int shape(int bar) {
        if (!now.hasBar(bar)) {
            return refuse(BAD);
        }
        spreadFromNow(bar);
        return search.shapeOfFound();
    }

    public int parts(int bar) {
        if (!now.hasBar(bar)) {
            return refuse(BAD);
        }
        study(bar);
        return search.countParts();
    }

    public int longest(int bar) {
        if (!now.hasBar(bar)) {
            return refuse(BAD);
        }
        if (now.sizeOf(bar) > LONGEST_RINGS) {
            return refuse(STUCK);
        }
        study(bar);
        return search.greatestFewest();
    }

    public int save(int n) {
        if (n < 1 || n > MOST_RINGS) {
            return refuse(BAD);
        }
        int all = (1 << n) - 1;
        law.takePlain(PAIR, n);
        search.learn(law);
        search.forget();
        search.spread(0, BACKWARD);
        return (int) grayPlace(all) - search.farOf(all);
    }

    public int luck(int bar) {
        if (!now.hasBar(bar)) {
            return refuse(BAD);
        }
        if (now.kindOf(bar) != CHAIN || now.stuckOf(bar) != 0) {
            return refuse(STUCK);
        }
        int place = (int) grayPlace(now.onOf(bar));
        int greatest = (1 << now.sizeOf(bar)) - 1;
        return place * (2 * greatest - place);
    }

    public int movable(int bar) {
        if (!now.hasBar(bar)) {
            return refuse(BAD);
        }
        spreadFromNow(bar);
        return search.movableRings();
    }

    public int ends(int bar) {
        if (!now.hasBar(bar)) {
            return refuse(BAD);
        }
        spreadFromNow(bar);
        return search.countEnds();
    }

    public int first(int bar, int ring) {
        if (!now.hasRing(bar, ring)) {
            return refuse(BAD);
        }
        spreadFromNow(bar);
        return search.soonestMoveOf(ring);
    }

    public int chance(int bar, int set, int m) {
        if (!now.hasSet(bar, set) || m < 0 || m > MOST_CHANCES) {
            return refuse(BAD);
        }
        study(bar);
        return search.chanceOf(now.onOf(bar), set, m);
    }

    // ---- minutes

    public int time(int bar, int set) {
        if (!now.hasSet(bar, set)) {
            return refuse(BAD);
        }
        int on = now.onOf(bar);
        int steps = leadTo(bar, on, set);
        if (steps == NONE) {
            return NONE;
        }
        int total = 0;
        for (int step = 0; step < steps; step++) {
            int move = search.nextMove(on);
            total += now.minutesOfMove(move);
            on ^= ringsOf(move);
        }
        return total;
    }

    public int bell(int bar, int ring, int k) {
        if (!now.hasRing(bar, ring) || k < 1) {
            return refuse(BAD);
        }
        int on = now.onOf(bar);
        int steps = leadTo(bar, on, 0);
        int times = 0;
        int total = 0;
        for (int step = 0; step < steps; step++) {
            int rings = ringsOf(search.nextMove(on));
            total += now.minutesOfMove(search.nextMove(on));
            times += rings >> ring & 1;
            if (times == k) {
                return total;
            }
            on ^= rings;
        }
        return NONE;
    }

    public int lock(int m) {
        if (m < 0 || m > MOST_LOCK) {
            return refuse(BAD);
        }
        for (int size = 1; size <= MOST_RINGS; size++) {
            if (now.minutesOfChain(size) >= m) {
                return size;
            }
        }
        return NONE;
    }

    // ---- rows of pictures and of moves

    public int pictures(int s, int n, int bar) {
        int why = whyNoPictures(s, n, bar);
        if (why != 0) {
            return refuse(why);
        }
        study(bar);
        int total = 0;
        for (int i = 0; i < n; i++) {
            int steps = stepsToPicture(s, i, bar);
            if (steps == NONE) {
                return NONE;
            }
            total += steps;
        }
        return total;
    }

    public int broken(int s, int n, int bar) {
        int why = whyNoPictures(s, n, bar);
        return why != 0 ? refuse(why) : brokenPicture(s, n, bar);
    }

    public int once(int s, int n, int bar) {
        int why = whyNoPictures(s, n, bar);
        if (why != 0) {
            return refuse(why);
        }
        int i = brokenPicture(s, n, bar);
        if (i == NONE) {
            return refuse(STUCK);
        }
        int ahead = pictureAhead(s, i, bar);
        search.spreadAnew((int) shelves.cell(s, i), BACKWARD);
        for (int ring = 0; ring < now.sizeOf(bar); ring++) {
            if (search.farOf(ahead ^ 1 << ring) != NONE) {
                return ring;
            }
        }
        return NONE;
    }

    public int judge(int s, int n, int bar) {
        int why = whyNoMoves(s, n, bar);
        return why != 0 ? refuse(why) : judgedMove(s, n, bar);
    }

    public int behind(int s, int n, int bar) {
        int why = whyNotMade(s, n, bar);
        return why != 0 ? refuse(why) : onBehind(s, n, bar);
    }

    public int moved(int s, int n, int bar) {
        int why = whyNotMade(s, n, bar);
        if (why != 0) {
            return refuse(why);
        }
        for (int i = 0; i < n; i++) {
            now.makeMove(bar, (int) shelves.cell(s, i));
        }
        return now.onOf(bar);
    }

    // ---- games, and moves in truth

    public int game(int bar, int what) {
        if (!now.hasBar(bar) || what < 0 || what > 1) {
            return refuse(BAD);
        }
        if (now.sizeOf(bar) > GAME_RINGS) {
            return refuse(STUCK);
        }
        study(bar);
        int on = now.onOf(bar);
        int winner = winningMove(search, on, 1 << on, 0);
        if (what == 1) {
            return winner;
        }
        return winner == NONE ? 0 : 1;
    }

    public int goes(int bar, int set, int n) {
        if (!now.hasSet(bar, set) || n < 1 || n > MOST_MOVES) {
            return refuse(BAD);
        }
        int steps = leadTo(bar, now.onOf(bar), set);
        if (steps == NONE) {
            return refuse(STUCK);
        }
        int many = Math.min(n, steps);
        for (int step = 0; step < many; step++) {
            now.makeMove(bar, search.nextMove(now.onOf(bar)));
        }
        return many;
    }

    public int play(int bar, int n) {
        if (!now.hasBar(bar) || n < 1 || n > MOST_MOVES) {
            return refuse(BAD);
        }
        law.take(now, bar);
        for (int made = 0; made < n; made++) {
            int legal = law.legalIn(now.onOf(bar));
            if (legal == 0) {
                return made;
            }
            now.makeMove(bar, bitByNumber(legal, now.draw(Integer.bitCount(legal))));
        }
        return n;
    }

    public int drop() {
        if (now.bars == 0) {
            return refuse(STUCK);
        }
        now.bars--;
        shelves.freeBarsFrom(now.bars);
        return now.bars;
    }

    public int seed(int v) {
        int ahead = now.seed;
        now.seed = v;
        return ahead;
    }

    public int image() {
        kept.become(now);
        imageStands = true;
        return 1;
    }

    public int back() {
        if (!imageStands) {
            return refuse(STUCK);
        }
        now.become(kept);
        shelves.freeBarsFrom(now.bars);
        return 1;
    }

    public int status(int what) {
        switch (what) {
            case 0:
                return now.bars;
            case 1:
                return now.ringsOn();
            case 2:
                return now.ringsStuck();
            case 3:
                return now.moved;
            case 4:
                return now.allMinutes();
            case 5:
                return tape.size;
            case 6:
                return now.seed;
            case 7:
                return shelves.countHeld();
            default:
                return what >= REFUSED && what - REFUSED < refusals.length ? refusals[what - REFUSED] : NONE;
        }
    }

    // ---- what the calls above share

    private int refuse(int why) {
        int at = BAD - why;
        if (at >= 0 && at < refusals.length) {
            refusals[at]++;
        }
        return why;
    }

    private int legalNow(int bar) {
        law.take(now, bar);
        return law.legalIn(now.onOf(bar));
    }

    private void study(int bar) {
        law.take(now, bar);
        search.learn(law);
    }

    /** Leaves the search so that its nextMove() tells THE WAY to the set. */
    private int leadTo(int bar, int from, int to) {
        study(bar);
        search.spreadAnew(to, BACKWARD);
        return search.farOf(from);
    }

    private void spreadFromNow(int bar) {
        study(bar);
        search.spreadAnew(now.onOf(bar), ONWARD);
    }

    /** The first refusal of a row as pictures and moves have it, 0 if none. */
    private int whyNoRow(int s, int n, int least, int most, int bar) {
        if (!Shelves.isShelf(s) || n < least || n > most || !now.hasBar(bar)) {
            return BAD;
        }
        if (shelves.hasBarIn(s)) {
            return OTHER;
        }
        if (shelves.isFree(s)) {
            return NOTHING;
        }
        return shelves.hasCells(s, 0, n) ? 0 : BAD;
    }

    private int whyNoPictures(int s, int n, int bar) {
        int why = whyNoRow(s, n, 1, MOST_PICTURES, bar);
        if (why != 0) {
            return why;
        }
        for (int i = 0; i < n; i++) {
            if (!now.hasSet(bar, shelves.cell(s, i))) {
                return BAD;
            }
        }
        return 0;
    }

    private int whyNoMoves(int s, int n, int bar) {
        return whyNoRow(s, n, 0, Shelves.MOST_CELLS, bar);
    }

    private int whyNotMade(int s, int n, int bar) {
        int why = whyNoMoves(s, n, bar);
        if (why != 0) {
            return why;
        }
        return judgedMove(s, n, bar) == NONE ? 0 : STUCK;
    }

    private int pictureAhead(int s, int i, int bar) {
        return i == 0 ? now.onOf(bar) : (int) shelves.cell(s, i - 1);
    }

    /** Wants the bar studied. */
    private int stepsToPicture(int s, int i, int bar) {
        search.spreadAnew((int) shelves.cell(s, i), BACKWARD);
        return search.farOf(pictureAhead(s, i, bar));
    }

    private int brokenPicture(int s, int n, int bar) {
        study(bar);
        for (int i = 0; i < n; i++) {
            if (stepsToPicture(s, i, bar) == NONE) {
                return i;
            }
        }
        return NONE;
    }

    private int judgedMove(int s, int n, int bar) {
        law.take(now, bar);
        int on = now.onOf(bar);
        for (int i = 0; i < n; i++) {
            long move = shelves.cell(s, i);
            if (move < 0 || move > BOTH || !hasBit(law.legalIn(on), (int) move)) {
                return i;
            }
            on ^= ringsOf((int) move);
        }
        return NONE;
    }

    private int onBehind(int s, int n, int bar) {
        int on = now.onOf(bar);
        for (int i = 0; i < n; i++) {
            on ^= ringsOf((int) shelves.cell(s, i));
        }
        return on;
    }

    private static boolean isUnder(int kind, int wanted) {
        if (kind == wanted || wanted == BAR) {
            return true;
        }
        return wanted == CHAIN && (kind == PAIR || kind == AFTER);
    }

    private static boolean hasBit(int bits, int at) {
        return at >= 0 && at < 32 && (bits >> at & 1) != 0;
    }

    /** The rings that a move turns; none for what is no move. */
    private static int ringsOf(int move) {
        if (move == BOTH) {
            return 3;
        }
        return move >= 0 && move < MOST_RINGS ? 1 << move : 0;
    }

    /** The rings of a chain turn as the bits of a Gray code do. */
    private static long grayPlace(long set) {
        long place = set;
        for (int shift = 1; shift < 64; shift *= 2) {
            place ^= place >>> shift;
        }
        return place;
    }

    private static int turned(int set, int size) {
        int other = 0;
        for (int ring = 0; ring < size; ring++) {
            other |= (set >> ring & 1) << size - 1 - ring;
        }
        return other;
    }

    private static int lastRing(int set) {
        for (int ring = MOST_RINGS - 1; ring >= 0; ring--) {
            if (hasBit(set, ring)) {
                return ring;
            }
        }
        return NONE;
    }

    private static int bitByNumber(int bits, int number) {
        int left = number;
        for (int at = 0; at <= BOTH; at++) {
            if (hasBit(bits, at)) {
                if (left == 0) {
                    return at;
                }
                left--;
            }
        }
        return NONE;
    }

    /** No set comes twice, so that a game ends within its sets; the depth says so in its own lines. */
    private static int winningMove(Search search, int set, int been, int depth) {
        if (depth > GAME_SETS) {
            return NONE;
        }
        for (int slot = 0; slot <= search.size; slot++) {
            int move = search.moveOf(slot);
            int other = set ^ ringsOf(move);
            if (search.mayGo(set, move) && !hasBit(been, other)
                    && winningMove(search, other, been | 1 << other, depth + 1) == NONE) {
                return move;
            }
        }
        return NONE;
    }

    /** All that image() keeps. */
    private static final class Evening {
        private final int[] kinds = new int[MOST_BARS];
        private final int[] sizes = new int[MOST_BARS];
        private final int[] ons = new int[MOST_BARS];
        private final int[] stucks = new int[MOST_BARS];
        private final int[] musts = new int[MOST_BARS * MOST_RINGS];
        private final int[] nots = new int[MOST_BARS * MOST_RINGS];
        private final int[] ringMinutes = new int[MOST_RINGS];
        private int bars = 0;
        private int moved = 0;
        private int seed = 1;

        private Evening() {
            Arrays.fill(ringMinutes, 1);
        }

        private void become(Evening other) {
            System.arraycopy(other.kinds, 0, kinds, 0, MOST_BARS);
            System.arraycopy(other.sizes, 0, sizes, 0, MOST_BARS);
            System.arraycopy(other.ons, 0, ons, 0, MOST_BARS);
            System.arraycopy(other.stucks, 0, stucks, 0, MOST_BARS);
            System.arraycopy(other.musts, 0, musts, 0, MOST_BARS * MOST_RINGS);
            System.arraycopy(other.nots, 0, nots, 0, MOST_BARS * MOST_RINGS);
            System.arraycopy(other.ringMinutes, 0, ringMinutes, 0, MOST_RINGS);
            bars = other.bars;
            moved = other.moved;
            seed = other.seed;
        }

        private boolean hasMostBars() {
            return bars >= MOST_BARS;
        }

        private boolean hasBar(int bar) {
            return bar >= 0 && bar < bars && bar < MOST_BARS;
        }

        private boolean hasSet(int bar, long set) {
            return hasBar(bar) && set >= 0 && set < 1L << sizes[bar];
        }

        private boolean hasRing(int bar, int ring) {
            return hasBar(bar) && ring >= 0 && ring < sizes[bar] && ring < MOST_RINGS;
        }

        private boolean hasMove(int bar, int move) {
            if (move == BOTH) {
                return kindOf(bar) == PAIR && sizeOf(bar) >= 2;
            }
            return hasRing(bar, move);
        }

        private int kindOf(int bar) {
            return hasBar(bar) ? kinds[bar] : NONE;
        }

        private int sizeOf(int bar) {
            return hasBar(bar) ? sizes[bar] : 0;
        }

        private int onOf(int bar) {
            return hasBar(bar) ? ons[bar] : 0;
        }

        private int stuckOf(int bar) {
            return hasBar(bar) ? stucks[bar] : 0;
        }

        private int mustOf(int bar, int ring) {
            return hasRing(bar, ring) ? musts[bar * MOST_RINGS + ring] : 0;
        }

        private int notOf(int bar, int ring) {
            return hasRing(bar, ring) ? nots[bar * MOST_RINGS + ring] : 0;
        }

        private int tabledRings(int bar) {
            int many = 0;
            for (int ring = 0; ring < sizeOf(bar); ring++) {
                if (mustOf(bar, ring) != 0 || notOf(bar, ring) != 0) {
                    many++;
                }
            }
            return many;
        }

        private int addBar(int kind, int size) {
            int bar = bars;
            if (bar < 0 || bar >= MOST_BARS) {
                return NONE;
            }
            bars++;
            kinds[bar] = kind;
            sizes[bar] = size;
            ons[bar] = (1 << size) - 1;
            stucks[bar] = 0;
            for (int ring = 0; ring < MOST_RINGS; ring++) {
                musts[bar * MOST_RINGS + ring] = 0;
                nots[bar * MOST_RINGS + ring] = 0;
            }
            return bar;
        }

        private void turnOn(int bar, int set) {
            if (hasBar(bar)) {
                ons[bar] = set;
            }
        }

        private void fasten(int bar, int set) {
            if (hasBar(bar)) {
                stucks[bar] = set;
            }
        }

        private void tell(int bar, int ring, int must, int not) {
            if (hasRing(bar, ring)) {
                musts[bar * MOST_RINGS + ring] = must;
                nots[bar * MOST_RINGS + ring] = not;
            }
        }

        private void makeMove(int bar, int move) {
            if (hasBar(bar)) {
                ons[bar] ^= ringsOf(move);
                moved++;
            }
        }

        private int draw(int below) {
            seed = seed * 1103515245 + 12345;
            return below > 0 ? (seed >>> 16) % below : 0;
        }

        private int minutesOf(int ring) {
            return ring >= 0 && ring < MOST_RINGS ? ringMinutes[ring] : 0;
        }

        private void setMinutes(int ring, int v) {
            if (ring >= 0 && ring < MOST_RINGS) {
                ringMinutes[ring] = v;
            }
        }

        private int minutesOfMove(int move) {
            return move == BOTH ? Math.max(minutesOf(0), minutesOf(1)) : minutesOf(move);
        }

        /** On the line the step down from a place turns the ring by the zeros at the place's end. */
        private int minutesOfChain(int size) {
            int total = 0;
            for (int place = (int) grayPlace((1 << size) - 1); place > 0; place--) {
                total += minutesOf(Integer.numberOfTrailingZeros(place));
            }
            return total;
        }

        private int allMinutes() {
            int total = 0;
            for (int ring = 0; ring < MOST_RINGS; ring++) {
                total += ringMinutes[ring];
            }
            return total;
        }

        private int ringsOn() {
            int many = 0;
            for (int bar = 0; bar < bars; bar++) {
                many += Integer.bitCount(onOf(bar));
            }
            return many;
        }

        private int ringsStuck() {
            int many = 0;
            for (int bar = 0; bar < bars; bar++) {
                many += Integer.bitCount(stuckOf(bar));
            }
            return many;
        }
    }

    /** The law of one bar, taken out of its evening so that a bar of no evening can be asked, too. */
    private static final class Law {
        private int kind = BAR;
        private int size = 1;
        private int stuck = 0;
        private final int[] musts = new int[MOST_RINGS];
        private final int[] nots = new int[MOST_RINGS];

        private void take(Evening evening, int bar) {
            if (evening.hasBar(bar)) {
                takePlain(evening.kinds[bar], evening.sizes[bar]);
                stuck = evening.stucks[bar];
                System.arraycopy(evening.musts, bar * MOST_RINGS, musts, 0, MOST_RINGS);
                System.arraycopy(evening.nots, bar * MOST_RINGS, nots, 0, MOST_RINGS);
            }
        }

        private void takePlain(int newKind, int newSize) {
            kind = newKind;
            size = newSize;
            stuck = 0;
        }

        /** The moves that may be while a set is on, as bits. */
        private int legalIn(int set) {
            int rings = ringsByKind(set) & (1 << size) - 1 & ~stuck;
            return bothMayGo(set) ? rings | 1 << BOTH : rings;
        }

        private int ringsByKind(int set) {
            switch (kind) {
                case CHAIN:
                case PAIR:
                    return chainRings(set);
                case TWO:
                    return chainRings(set) | afterRings(set);
                case AFTER:
                    return afterRings(set);
                case TOLD:
                    return toldRings(set);
                default:
                    return -1;
            }
        }

        /** Ring 0, and the one above the lowest that is on. */
        private static int chainRings(int set) {
            return 1 | (set & -set) << 1;
        }

        /** The uppermost ring, and the one below the highest that is on. */
        private int afterRings(int set) {
            return 1 << size - 1 | Integer.highestOneBit(set) >>> 1;
        }

        private int toldRings(int set) {
            int rings = 0;
            for (int ring = 0; ring < MOST_RINGS; ring++) {
                if ((musts[ring] & ~set) == 0 && (nots[ring] & set) == 0) {
                    rings |= 1 << ring;
                }
            }
            return rings;
        }

        private boolean bothMayGo(int set) {
            int both = set & 3;
            return kind == PAIR && size >= 2 && (stuck & 3) == 0 && (both == 0 || both == 3);
        }
    }

    /** Sets of one bar and the moves between them; all in thought. */
    private static final class Search {
        private final int[] legal = new int[MOST_SETS];
        private final int[] far = new int[MOST_SETS];
        private final int[] queue = new int[MOST_SETS];
        private int[] parts = new int[MOST_SETS];
        private int[] nextParts = new int[MOST_SETS];
        private int size = 0;
        private int sets = 0;
        private int found = 0;

        private void learn(Law law) {
            size = law.size;
            sets = Math.min(1 << size, MOST_SETS);
            for (int set = 0; set < sets; set++) {
                legal[set] = law.legalIn(set);
            }
        }

        private boolean isSet(int set) {
            return set >= 0 && set < sets && set < MOST_SETS;
        }

        /** Slots run over all moves by their numbers: the rings, then both at once. */
        private int moveOf(int slot) {
            return slot < size ? slot : BOTH;
        }

        private int legalAt(int set) {
            return set >= 0 && set < sets && set < MOST_SETS ? legal[set] : 0;
        }

        private boolean mayGo(int set, int move) {
            return (legalAt(set) >> move & 1) != 0;
        }

        /** Fewest moves from where the spread began, or to it if it went backward. */
        private int farOf(int set) {
            return isSet(set) ? far[set] : NONE;
        }

        private int foundAt(int i) {
            return i >= 0 && i < found && i < MOST_SETS ? queue[i] : NONE;
        }

        private void forget() {
            Arrays.fill(far, NONE);
            found = 0;
        }

        private void spreadAnew(int start, int sense) {
            forget();
            spread(start, sense);
        }

        /** What was found before stays found: parts are counted so. */
        private void spread(int start, int sense) {
            int head = found;
            note(start, 0);
            for (; head < found && head < MOST_SETS; head++) {
                int set = foundAt(head);
                int steps = farOf(set) + 1;
                for (int slot = 0; slot <= size; slot++) {
                    int move = moveOf(slot);
                    int other = set ^ ringsOf(move);
                    if (isOpen(set, other, move, sense)) {
                        note(other, steps);
                    }
                }
            }
        }

        private boolean isOpen(int set, int other, int move, int sense) {
            int onward = (sense & ONWARD) != 0 ? legalAt(set) : 0;
            int backward = (sense & BACKWARD) != 0 ? legalAt(other) : 0;
            return ((onward | backward) >> move & 1) != 0;
        }

        private void note(int set, int steps) {
            if (isSet(set) && far[set] == NONE && found >= 0 && found < MOST_SETS) {
                far[set] = steps;
                queue[found] = set;
                found++;
            }
        }

        /** Wants a spread backward from the aim. */
        private int nextMove(int set) {
            int left = farOf(set);
            for (int slot = 0; slot <= size && left > 0; slot++) {
                int move = moveOf(slot);
                if (mayGo(set, move) && farOf(set ^ ringsOf(move)) == left - 1) {
                    return move;
                }
            }
            return NONE;
        }

        /** The sets are gone through from the least up, so that of several the least stays. */
        private int farthestSet() {
            int best = foundAt(0);
            for (int set = 0; set < sets; set++) {
                if (farOf(set) > farOf(best)) {
                    best = set;
                }
            }
            return best;
        }

        private int shapeOfFound() {
            int twicePairs = 0;
            int most = 0;
            for (int i = 0; i < found; i++) {
                int pairs = pairsOf(foundAt(i));
                twicePairs += pairs;
                most = Math.max(most, pairs);
            }
            if (twicePairs >= 2 * found) {
                return 2;
            }
            return most <= 2 ? 0 : 1;
        }

        private int pairsOf(int set) {
            int pairs = 0;
            for (int slot = 0; slot <= size; slot++) {
                int move = moveOf(slot);
                int other = set ^ ringsOf(move);
                if (farOf(other) != NONE && isOpen(set, other, move, EITHER_WAY)) {
                    pairs++;
                }
            }
            return pairs;
        }

        private int countParts() {
            forget();
            int many = 0;
            for (int set = 0; set < sets; set++) {
                if (farOf(set) == NONE) {
                    spread(set, EITHER_WAY);
                    many++;
                }
            }
            return many;
        }

        /** The last set that a spread finds is none of the nearer ones. */
        private int greatestFewest() {
            int most = 0;
            for (int set = 0; set < sets; set++) {
                spreadAnew(set, ONWARD);
                most = Math.max(most, farOf(foundAt(found - 1)));
            }
            return most;
        }

        private int movableRings() {
            int moves = 0;
            for (int i = 0; i < found; i++) {
                moves |= legalAt(foundAt(i));
            }
            int rings = moves & MOST_SETS - 1;
            return hasBit(moves, BOTH) ? rings | ringsOf(BOTH) : rings;
        }

        private int countEnds() {
            int many = 0;
            for (int i = 0; i < found; i++) {
                if (Integer.bitCount(legalAt(foundAt(i))) == 1) {
                    many++;
                }
            }
            return many;
        }

        private int soonestMoveOf(int ring) {
            int wanted = ringsOf(ring) | (hasBit(ringsOf(BOTH), ring) ? 1 << BOTH : 0);
            for (int i = 0; i < found; i++) {
                if ((legalAt(foundAt(i)) & wanted) != 0) {
                    return farOf(foundAt(i)) + 1;
                }
            }
            return NONE;
        }

        private int chanceOf(int start, int aim, int moves) {
            if (!isSet(start) || !isSet(aim)) {
                return 0;
            }
            Arrays.fill(parts, 0);
            parts[start] = WHOLE_CHANCE;
            for (int k = 0; k < moves; k++) {
                Arrays.fill(nextParts, 0);
                for (int set = 0; set < sets && set < MOST_SETS; set++) {
                    if (parts[set] > 0) {
                        share(set, parts[set]);
                    }
                }
                int[] spent = parts;
                parts = nextParts;
                nextParts = spent;
            }
            return parts[aim];
        }

        private void share(int set, int whole) {
            int many = Integer.bitCount(legalAt(set));
            if (many == 0) {
                addPart(set, whole);
                return;
            }
            int part = whole / many;
            for (int slot = 0; slot <= size; slot++) {
                int move = moveOf(slot);
                if (mayGo(set, move)) {
                    addPart(set ^ ringsOf(move), part);
                }
            }
        }

        private void addPart(int set, int part) {
            if (isSet(set)) {
                nextParts[set] += part;
            }
        }
    }

    /** Eight shelves, each with room for the longest row, so that rows make no arrays. */
    private static final class Shelves {
        private static final int MOST = 8;
        private static final int MOST_CELLS = 40;
        private static final int BYTES = 0;
        private static final int SHORTS = 1;
        private static final int INTS = 2;
        private static final int BOOLEANS = 4;
        private static final int FIRST_BAR = 10;

        private final int[] held = new int[MOST];
        private final int[] lengths = new int[MOST];
        private final long[] cells = new long[MOST * MOST_CELLS];

        private Shelves() {
            Arrays.fill(held, NONE);
        }

        private static boolean isShelf(int s) {
            return s >= 0 && s < MOST;
        }

        private int heldBy(int s) {
            return isShelf(s) ? held[s] : NONE;
        }

        private boolean isFree(int s) {
            return heldBy(s) == NONE;
        }

        private boolean hasBarIn(int s) {
            return heldBy(s) >= FIRST_BAR;
        }

        private boolean hasRowIn(int s) {
            return s >= 0 && s < MOST && held[s] != NONE && held[s] < FIRST_BAR;
        }

        private int barIn(int s) {
            int what = heldBy(s);
            return what >= FIRST_BAR ? what - FIRST_BAR : NONE;
        }

        private boolean differ(int p, int q) {
            return !isFree(p) && !isFree(q) && heldBy(p) != heldBy(q);
        }

        private boolean hasCells(int s, int i, int n) {
            return hasRowIn(s) && i >= 0 && n >= 0 && n <= lengths[s] && i <= lengths[s] - n;
        }

        private long cell(int s, int i) {
            return hasCells(s, i, 1) ? cells[s * MOST_CELLS + i] : 0;
        }

        private void holdRow(int s, int sort, int n) {
            if (!isShelf(s) || n < 0 || n > MOST_CELLS) {
                return;
            }
            held[s] = sort;
            lengths[s] = n;
            for (int i = 0; i < n; i++) {
                cells[s * MOST_CELLS + i] = 0;
            }
        }

        private void holdBar(int s, int bar) {
            if (isShelf(s)) {
                held[s] = FIRST_BAR + bar;
            }
        }

        private void free(int s) {
            if (isShelf(s)) {
                held[s] = NONE;
            }
        }

        private void freeBarsFrom(int bar) {
            for (int s = 0; s < MOST; s++) {
                if (barIn(s) >= bar) {
                    free(s);
                }
            }
        }

        private void write(int s, int i, long v) {
            if (hasCells(s, i, 1)) {
                cells[s * MOST_CELLS + i] = lowestBits(heldBy(s), v);
            }
        }

        private void carry(int p, int q, int i, int j, int n) {
            if (hasCells(p, i, n) && hasCells(q, j, n)) {
                System.arraycopy(cells, p * MOST_CELLS + i, cells, q * MOST_CELLS + j, n);
            }
        }

        private int countHeld() {
            int many = 0;
            for (int s = 0; s < MOST; s++) {
                if (!isFree(s)) {
                    many++;
                }
            }
            return many;
        }

        private static long lowestBits(int sort, long v) {
            switch (sort) {
                case BYTES:
                    return (byte) v;
                case SHORTS:
                    return (short) v;
                case INTS:
                    return (int) v;
                case BOOLEANS:
                    return v != 0 ? 1 : 0;
                default:
                    return v;
            }
        }
    }

    /** The tape and its reader; what is read goes into a draft, so that a fault leaves nothing behind. */
    private static final class Tape {
        private static final int MOST = 250;
        private static final int END = 0;
        private static final int WORD = 1;
        private static final int NUMBER = 2;
        private static final int SIGN = 3;
        private static final int NO_TOKEN = 4;

        private final int[] bytes = new int[MOST];
        private int size = 0;
        private int at = 0;
        /** Where the token begins that was read last: all that fails, fails there. */
        private int start = 0;
        private int type = END;
        private int value = 0;

        private boolean isFull() {
            return size >= MOST;
        }

        private int append(int letter) {
            if (size >= 0 && size < MOST) {
                bytes[size] = letter;
                size++;
            }
            return size;
        }

        private void clear() {
            size = 0;
        }

        /** How many statements, or NONE: then start is the fault. */
        private int readInto(Evening draft, Law law) {
            at = 0;
            for (int many = 1; many <= MOST; many++) {
                if (!readStatement(draft, law)) {
                    return NONE;
                }
                if (type == END) {
                    return many;
                }
                if (type != SIGN) {
                    return NONE;
                }
            }
            return NONE;
        }

        /** Leaves the token behind the statement as the one that was read last. */
        private boolean readStatement(Evening draft, Law law) {
            readToken();
            if (isWord("bar")) {
                return readBar(draft);
            }
            if (isWord("stuck")) {
                return readStuck(draft);
            }
            if (isWord("table")) {
                return readTable(draft);
            }
            if (isWord("minutes")) {
                return readMinutes(draft);
            }
            return isWord("move") && readMove(draft, law);
        }

        private boolean readBar(Evening draft) {
            if (draft.hasMostBars() || !readNumber() || value > TOLD) {
                return false;
            }
            int kind = value;
            if (!readNumber() || value < 1 || value > MOST_RINGS) {
                return false;
            }
            int bar = draft.addBar(kind, value);
            readToken();
            if (!isWord("on")) {
                return true;
            }
            if (!readNumber() || !draft.hasSet(bar, value)) {
                return false;
            }
            draft.turnOn(bar, value);
            readToken();
            return true;
        }

        private boolean readStuck(Evening draft) {
            if (!readNumber() || !draft.hasBar(value)) {
                return false;
            }
            int bar = value;
            if (!readNumber() || !draft.hasSet(bar, value)) {
                return false;
            }
            draft.fasten(bar, value);
            readToken();
            return true;
        }

        private boolean readTable(Evening draft) {
            if (!readNumber() || draft.kindOf(value) != TOLD) {
                return false;
            }
            int bar = value;
            if (!readNumber() || !draft.hasRing(bar, value)) {
                return false;
            }
            int ring = value;
            if (!readNumber() || !draft.hasSet(bar, value)) {
                return false;
            }
            int must = value;
            if (!readNumber() || !draft.hasSet(bar, value)) {
                return false;
            }
            draft.tell(bar, ring, must, value);
            readToken();
            return true;
        }

        private boolean readMinutes(Evening draft) {
            if (!readNumber() || value >= MOST_RINGS) {
                return false;
            }
            int ring = value;
            if (!readNumber() || value > MOST_MINUTES) {
                return false;
            }
            draft.setMinutes(ring, value);
            readToken();
            return true;
        }

        private boolean readMove(Evening draft, Law law) {
            if (!readNumber() || !draft.hasBar(value)) {
                return false;
            }
            int bar = value;
            law.take(draft, bar);
            if (!readNumber() || !hasBit(law.legalIn(draft.onOf(bar)), value)) {
                return false;
            }
            draft.makeMove(bar, value);
            readToken();
            return true;
        }

        private boolean readNumber() {
            readToken();
            return type == NUMBER && at - start <= 4;
        }

        private void readToken() {
            while (at < size && byteAt(at) == ' ') {
                at++;
            }
            start = at;
            int letter = byteAt(at);
            if (at >= size) {
                type = END;
            } else if (letter == ';') {
                type = SIGN;
                at++;
            } else if (isLetter(letter)) {
                type = WORD;
                while (at < size && isLetter(byteAt(at))) {
                    at++;
                }
            } else if (isDigit(letter)) {
                type = NUMBER;
                value = 0;
                while (at < size && isDigit(byteAt(at))) {
                    value = value * 10 + byteAt(at) - '0';
                    at++;
                }
            } else {
                type = NO_TOKEN;
            }
        }

        private boolean isWord(String word) {
            if (type != WORD || at - start != word.length()) {
                return false;
            }
            for (int i = 0; i < word.length(); i++) {
                if (byteAt(start + i) != word.charAt(i)) {
                    return false;
                }
            }
            return true;
        }

        private int byteAt(int i) {
            return i >= 0 && i < size && i < MOST ? bytes[i] : NONE;
        }

        private static boolean isLetter(int letter) {
            return letter >= 'a' && letter <= 'z';
        }

        private static boolean isDigit(int letter) {
            return letter >= '0' && letter <= '9';
        }
    }
}
