import java.util.ArrayList;
import java.util.List;
import java.util.Random;

/** Runs of drawn calls, the same on the program and on the slow model; the draws are always the same. */
public final class ModelTest {
    private static final int NONE = -1;
    private static final int RUNS = 400;
    private static final int CALLS = 512;

    private static final String[] NAMES = {"row", "set", "copy", "element", "holds", "show", "says", "bar", "put",
        "stick", "table", "minutes", "feed", "wipe", "bars", "barOf", "may", "moves", "move", "fewest", "way",
        "between", "place", "setOf", "reach", "farthest", "shape", "parts", "longest", "save", "luck", "time",
        "bell", "lock", "movable", "ends", "first", "chance", "pictures", "broken", "once", "judge", "behind",
        "moved", "game", "goes", "play", "drop", "seed", "image", "back", "status"};
    private static final int[] OFTEN = {2, 3, 2, 2, 1, 2, 4, 4, 3,
        2, 5, 2, 1, 1, 3, 3, 3, 2, 4, 2, 2,
        2, 2, 2, 2, 2, 2, 2, 2, 1, 2, 2,
        3, 2, 2, 2, 3, 2, 3, 3, 4, 4, 4,
        4, 4, 3, 2, 1, 1, 1, 1, 4};

    private final Checks checks = new Checks();
    private final Random random;
    private RingsOff program;
    private Model model;
    private final List<String> calls = new ArrayList<>();
    private int greatest;

    private ModelTest(long seed) {
        random = new Random(seed);
    }

    public static void main(String[] args) {
        ModelTest test = new ModelTest(args.length > 0 ? Long.parseLong(args[0]) : 20261118L);
        int runs = args.length > 1 ? Integer.parseInt(args[1]) : RUNS;
        for (int run = 0; run < runs && !test.checks.hasMany(5); run++) {
            test.run(run);
        }
        test.checks.end("ModelTest");
    }

    private void run(int run) {
        checks.part("run " + run);
        program = new RingsOff();
        model = new Model();
        calls.clear();
        greatest = run % 4 == 0 ? 10 : run % 4 == 1 ? 6 : 3;
        setUp();
        while (calls.size() < CALLS) {
            String name = drawnName();
            if (name.equals("bars") && random.nextInt(4) != 0) {
                feedText(drawnText());
            } else if (name.equals("row") && random.nextBoolean()) {
                fillRow();
                continue;
            }
            call(name, argumentsOf(name));
        }
    }

    /** Without bars and rows most drawn calls would be refused. */
    private void setUp() {
        for (int bar = 0; bar < 2 + random.nextInt(3); bar++) {
            long kind = random.nextInt(3) == 0 ? 5 : random.nextInt(6);
            call("bar", kind, size());
            for (int ring = 0; ring < greatest && kind == 5; ring++) {
                call("table", bar, ring, condition(), condition());
            }
            call("stick", bar, random.nextInt(3) == 0 ? 1L << random.nextInt(greatest) : 0);
            call("put", bar, set());
        }
        for (int i = 0; i < 6; i++) {
            fillRow();
        }
    }

    private String drawnName() {
        int all = 0;
        for (int often : OFTEN) {
            all += often;
        }
        int at = random.nextInt(all);
        int i = 0;
        while (at >= OFTEN[i]) {
            at -= OFTEN[i];
            i++;
        }
        return NAMES[i];
    }

    private void call(String name, long... a) {
        if (calls.size() >= CALLS) {
            return;
        }
        StringBuilder text = new StringBuilder(name);
        for (long v : a) {
            text.append(' ').append(v);
        }
        calls.add(text.toString());
        long got = ask(name, a);
        long want = model.call(name, a);
        checks.due("call " + calls.size() + ": " + text, got, want);
    }

    private long wild() {
        long[] wilds = {-1, -2, 0, 1, 4, 7, 8, 9, 10, 11, 19, 20, 21, 40, 41, 60, 61, 100, 255, 256, 1023, 1024,
            Integer.MAX_VALUE, Integer.MIN_VALUE, -20};
        return wilds[random.nextInt(wilds.length)];
    }

    private long most(long most) {
        return random.nextInt(25) == 0 ? wild() : random.nextInt((int) most + 1);
    }

    private long bar() {
        return random.nextInt(20) == 0 ? random.nextInt(6) - 1 : random.nextInt(random.nextInt(4) + 1);
    }

    private long size() {
        return random.nextInt(3) == 0 ? most(greatest - 1) + 1 : greatest;
    }

    private long set() {
        int bits = random.nextInt(3) == 0 ? 1 + random.nextInt(greatest) : greatest;
        return most((1 << bits) - 1);
    }

    /** Laws with few rings in them leave some way to go. */
    private long condition() {
        return random.nextInt(3) == 0 ? set() : random.nextInt(2) == 0 ? 0 : 1L << random.nextInt(greatest);
    }

    private long move() {
        return random.nextInt(5) == 0 ? 20 : most(greatest == 10 ? 9 : greatest);
    }

    private long[] argumentsOf(String name) {
        switch (name) {
            case "row":
                return new long[] {most(7), most(4), most(40)};
            case "set":
                return new long[] {most(7), most(10), random.nextInt(4) == 0 ? random.nextLong() : move()};
            case "copy":
                return new long[] {most(7), most(7), most(6), most(6), most(6)};
            case "element":
                return new long[] {most(7), most(7)};
            case "show":
                return new long[] {random.nextInt(4) == 0 ? most(7) : 7, random.nextInt(4) == 0 ? NONE : bar()};
            case "says":
                return new long[] {random.nextInt(3) == 0 ? most(7) : 7, most(5)};
            case "bar":
                return new long[] {most(5), size()};
            case "put":
            case "fewest":
            case "time":
                return new long[] {bar(), set()};
            case "stick":
                return new long[] {bar(), random.nextInt(3) == 0 ? set() & set() : random.nextInt(2)};
            case "table":
                return new long[] {bar(), most(greatest - 1), condition(), condition()};
            case "minutes":
                return new long[] {most(9), most(99)};
            case "feed":
                return new long[] {most(255)};
            case "barOf":
                return new long[] {bar(), most(3) + 10 * random.nextInt(3)};
            case "may":
            case "move":
                return new long[] {bar(), move()};
            case "way":
                return new long[] {bar(), set(), random.nextInt(3) == 0 ? most(600) : most(4)};
            case "between":
                return new long[] {bar(), set(), set()};
            case "place":
            case "setOf":
                return new long[] {random.nextLong() >> random.nextInt(64)};
            case "farthest":
            case "game":
                return new long[] {bar(), most(1)};
            case "save":
                return new long[] {most(10)};
            case "bell":
                return new long[] {bar(), most(greatest - 1), most(5)};
            case "lock":
                return new long[] {most(random.nextBoolean() ? 99999 : 9)};
            case "first":
                return new long[] {bar(), most(greatest - 1)};
            case "chance":
                return new long[] {bar(), set(), most(20)};
            case "pictures":
            case "broken":
            case "once":
                return new long[] {most(7), most(4), bar()};
            case "judge":
            case "behind":
            case "moved":
                return new long[] {most(7), most(4), bar()};
            case "goes":
                return new long[] {bar(), set(), most(60)};
            case "play":
                return new long[] {bar(), most(60)};
            case "seed":
                return new long[] {random.nextInt()};
            case "status":
                return new long[] {most(16)};
            case "holds":
                return new long[] {most(7)};
            case "wipe":
            case "bars":
            case "drop":
            case "image":
            case "back":
                return new long[0];
            default:
                return new long[] {bar()};
        }
    }

    private void fillRow() {
        long s = most(6);
        int n = 1 + random.nextInt(8);
        call("row", s, most(4), n);
        int filling = random.nextInt(3);
        for (int i = 0; i < n; i++) {
            call("set", s, i, filling == 0 ? move() : filling == 1 ? set() : random.nextInt(3));
        }
    }

    private void feedText(String text) {
        for (int i = 0; i < text.length() && calls.size() < CALLS - 1; i++) {
            call("feed", text.charAt(i));
        }
    }

    private String drawnText() {
        StringBuilder text = new StringBuilder();
        int many = 1 + random.nextInt(4);
        for (int i = 0; i < many; i++) {
            if (i > 0) {
                text.append(random.nextInt(15) == 0 ? "" : ";");
            }
            text.append(statement());
            if (random.nextInt(4) == 0) {
                text.append(' ');
            }
        }
        if (random.nextInt(5) == 0) {
            int at = random.nextInt(text.length());
            text.setCharAt(at, ";; 0123456789abmnotuv%\n~\u00e9".charAt(random.nextInt(25)));
        }
        if (random.nextInt(10) == 0) {
            text.setLength(random.nextInt(text.length() + 1));
        }
        return text.toString();
    }

    private String statement() {
        switch (random.nextInt(6)) {
            case 0:
                return "bar " + number(most(5)) + " " + number(size());
            case 1:
                return "bar " + number(most(5)) + " " + number(size()) + "on" + number(set());
            case 2:
                return "stuck " + number(bar()) + " " + number(set() & set());
            case 3:
                return "table " + number(bar()) + " " + number(most(greatest - 1)) + " " + number(condition()) + " "
                        + number(condition());
            case 4:
                return "minutes " + number(most(9)) + " " + number(most(99));
            default:
                return "move " + number(bar()) + " " + number(move());
        }
    }

    private String number(long v) {
        String text = String.valueOf(v);
        return random.nextInt(10) == 0 ? "00".substring(random.nextInt(2)) + text : text;
    }

    private static int whole(long v) {
        return (int) v;
    }

    private long ask(String name, long[] a) {
        int p = a.length > 0 ? whole(a[0]) : 0;
        int q = a.length > 1 ? whole(a[1]) : 0;
        int r = a.length > 2 ? whole(a[2]) : 0;
        switch (name) {
            case "row": return program.row(p, q, r);
            case "set": return program.set(p, q, a[2]);
            case "copy": return program.copy(p, q, r, whole(a[3]), whole(a[4]));
            case "element": return program.element(p, q);
            case "holds": return program.holds(p);
            case "show": return program.show(p, q);
            case "says": return program.says(p, q);
            case "bar": return program.bar(p, q);
            case "put": return program.put(p, q);
            case "stick": return program.stick(p, q);
            case "table": return program.table(p, q, r, whole(a[3]));
            case "minutes": return program.minutes(p, q);
            case "feed": return program.feed(p);
            case "wipe": return program.wipe();
            case "bars": return program.bars();
            case "barOf": return program.barOf(p, q);
            case "may": return program.may(p, q);
            case "moves": return program.moves(p);
            case "move": return program.move(p, q);
            case "fewest": return program.fewest(p, q);
            case "way": return program.way(p, q, r);
            case "between": return program.between(p, q, r);
            case "place": return program.place(a[0]);
            case "setOf": return program.setOf(a[0]);
            case "reach": return program.reach(p);
            case "farthest": return program.farthest(p, q);
            case "shape": return program.shape(p);
            case "parts": return program.parts(p);
            case "longest": return program.longest(p);
            case "save": return program.save(p);
            case "luck": return program.luck(p);
            case "time": return program.time(p, q);
            case "bell": return program.bell(p, q, r);
            case "lock": return program.lock(p);
            case "movable": return program.movable(p);
            case "ends": return program.ends(p);
            case "first": return program.first(p, q);
            case "chance": return program.chance(p, q, r);
            case "pictures": return program.pictures(p, q, r);
            case "broken": return program.broken(p, q, r);
            case "once": return program.once(p, q, r);
            case "judge": return program.judge(p, q, r);
            case "behind": return program.behind(p, q, r);
            case "moved": return program.moved(p, q, r);
            case "game": return program.game(p, q);
            case "goes": return program.goes(p, q, r);
            case "play": return program.play(p, q);
            case "drop": return program.drop();
            case "seed": return program.seed(p);
            case "image": return program.image();
            case "back": return program.back();
            case "status": return program.status(p);
            default: throw new IllegalStateException(name);
        }
    }
}
