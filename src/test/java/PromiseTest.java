/** For each promise what it says, the edges that the document names, and wrong inputs. */
public final class PromiseTest {
    private static final int NONE = -1;
    private static final int BAD = -2;
    private static final int OTHER = -3;
    private static final int NOTHING = -4;
    private static final int STUCK = -5;
    private static final int FULL = -6;
    private static final int BAR = 0;
    private static final int CHAIN = 1;
    private static final int PAIR = 2;
    private static final int TWO = 3;
    private static final int AFTER = 4;
    private static final int TOLD = 5;
    private static final long LINE = 1L << 60;

    private static final Checks CHECKS = new Checks();

    public static void main(String[] args) {
        promises1To7();
        says();
        promises9To15();
        tape();
        promises17To20();
        ways();
        lines();
        reaches();
        minutes();
        chances();
        pictures();
        rowsOfMoves();
        games();
        movesInTruth();
        imagesAndStatus();
        CHECKS.end("PromiseTest");
    }

    private static void due(String what, long got, long want) {
        CHECKS.due(what, got, want);
    }

    private static void part(int promise) {
        CHECKS.part("promise " + promise);
    }

    private static RingsOff with(int kind, int size, int on) {
        RingsOff x = new RingsOff();
        due("bar", x.bar(kind, size), 0);
        due("put", x.put(0, on), (1 << size) - 1);
        return x;
    }

    private static RingsOff withRow(RingsOff x, int s, int sort, long... values) {
        due("row", x.row(s, sort, values.length), 1);
        for (int i = 0; i < values.length; i++) {
            due("set", x.set(s, i, values[i]), 1);
        }
        return x;
    }

    private static int read(RingsOff x, String text) {
        for (int i = 0; i < text.length(); i++) {
            due("feed", x.feed(text.charAt(i)), i + 1);
        }
        return x.bars();
    }

    /** A fault is told, counted once as BAD, and leaves nothing but an empty tape. */
    private static void fault(String text, int place) {
        RingsOff x = new RingsOff();
        faultIn(x, text, place);
        due("no bar behind " + text, x.status(0), 0);
    }

    private static void faultIn(RingsOff x, String text, int place) {
        int refused = x.status(12);
        due("fault of " + text, read(x, text), -20 - place);
        due("refusals behind " + text, x.status(12), refused + 1);
        due("the tape behind " + text, x.status(5), 0);
    }

    private static void promises1To7() {
        part(1);
        RingsOff x = new RingsOff();
        due("NONE", RingsOff.NONE, NONE);
        due("bars", x.status(0), 0);
        due("tape", x.status(5), 0);
        due("shelves", x.status(7), 0);
        for (int s = -1; s <= 8; s++) {
            due("holds", x.holds(s), NONE);
        }
        due("seed", x.status(6), 1);
        due("moved", x.status(3), 0);
        due("minutes", x.status(4), 10);

        part(2);
        due("row", x.row(0, 0, 40), 1);
        due("row", x.row(7, 4, 0), 1);
        due("a shelf below", x.row(-1, 0, 1), BAD);
        due("a shelf above", x.row(8, 0, 1), BAD);
        due("a sort below", x.row(1, -1, 1), BAD);
        due("a sort above", x.row(1, 5, 1), BAD);
        due("too few", x.row(1, 0, -1), BAD);
        due("too many", x.row(1, 0, 41), BAD);
        due("nothing by a refusal", x.holds(1), NONE);
        due("set", x.set(0, 39, 5), 1);
        due("a new row", x.row(0, 3, 40), 1);
        due("is of zeros", x.element(0, 39), 0);
        due("row in place of a bar", with(BAR, 1, 1).row(0, 0, 1), 1);

        part(3);
        x = new RingsOff();
        due("bar", x.bar(BAR, 1), 0);
        due("show", x.show(6, 0), 1);
        long big = 0x1234_5678_9ABC_DEF0L;
        withRow(x, 0, 0, big, 255, 127);
        withRow(x, 1, 1, big, 65535, 32767);
        withRow(x, 2, 2, big, 0xFFFF_FFFFL, 0x7FFF_FFFFL);
        withRow(x, 3, 3, big, -1, Long.MAX_VALUE);
        withRow(x, 4, 4, big, 0, 256);
        long[][] kept = {{(byte) 0xF0, -1, 127}, {(short) 0xDEF0, -1, 32767},
            {0x9ABC_DEF0, -1, Integer.MAX_VALUE}, {big, -1, Long.MAX_VALUE}, {1, 0, 1}};
        for (int s = 0; s < 5; s++) {
            for (int i = 0; i < 3; i++) {
                due("element " + s + " " + i, x.element(s, i), kept[s][i]);
            }
        }
        due("no shelf", x.set(-1, 0, 1), BAD);
        due("no shelf", x.set(8, 0, 1), BAD);
        due("a bar, and i", x.set(6, -1, 1), OTHER);
        due("nothing, and i", x.set(7, -1, 1), NOTHING);
        due("i below", x.set(0, -1, 1), BAD);
        due("i above", x.set(0, 3, 1), BAD);

        part(4);
        x = new RingsOff();
        withRow(x, 0, 2, 1, 2, 3, 4, 5);
        withRow(x, 1, 2, 0, 0, 0);
        withRow(x, 2, 3, 9, 9);
        due("bar", x.bar(BAR, 1), 0);
        due("show", x.show(3, 0), 1);
        due("copy", x.copy(0, 1, 1, 0, 3), 3);
        due("copied", x.element(1, 2), 4);
        due("within one, onward", x.copy(0, 0, 0, 1, 4), 4);
        for (int i = 0; i < 5; i++) {
            due("as they were", x.element(0, i), i == 0 ? 1 : i);
        }
        due("within one, back", x.copy(0, 0, 1, 0, 4), 4);
        due("as they were", x.element(0, 3), 4);
        due("none", x.copy(0, 1, 5, 3, 0), 0);
        due("shelf ahead of others", x.copy(-1, 3, 0, 0, 1), BAD);
        due("shelf ahead of others", x.copy(3, 8, 0, 0, 1), BAD);
        due("a bar", x.copy(3, 0, -1, 0, 1), OTHER);
        due("a bar ahead of nothing", x.copy(3, 7, 0, 0, 1), OTHER);
        due("a bar behind nothing", x.copy(7, 3, 0, 0, 1), OTHER);
        due("two sorts", x.copy(0, 2, -1, 0, 1), OTHER);
        due("nothing", x.copy(7, 0, -1, 0, 1), NOTHING);
        due("into nothing", x.copy(0, 7, -1, 0, 1), NOTHING);
        due("i below", x.copy(0, 1, -1, 0, 1), BAD);
        due("j below", x.copy(0, 1, 0, -1, 1), BAD);
        due("n below", x.copy(0, 1, 0, 0, -1), BAD);
        due("i too far", x.copy(0, 1, 4, 0, 2), BAD);
        due("j too far", x.copy(0, 1, 0, 2, 2), BAD);
        due("i far beyond", x.copy(0, 1, Integer.MAX_VALUE, 0, 1), BAD);
        due("n far beyond", x.copy(0, 1, 1, 1, Integer.MAX_VALUE), BAD);
        due("i least", x.copy(0, 1, Integer.MIN_VALUE, 0, 1), BAD);

        part(5);
        due("beyond the row", x.element(0, 5), 0);
        due("below", x.element(0, -1), 0);
        due("no shelf", x.element(8, 0), 0);
        due("no shelf", x.element(-1, 0), 0);
        due("a bar", x.element(3, 0), 0);
        due("nothing", x.element(7, 0), 0);
        RingsOff calm = new RingsOff();
        calm.element(9, 9);
        due("not refused", calm.status(12), 0);

        part(6);
        due("a row by its sort", x.holds(0), 2);
        due("a row by its sort", x.holds(2), 3);
        due("a bar", x.holds(3), 10);
        due("nothing", x.holds(4), NONE);
        due("no shelf", x.holds(8), NONE);

        part(7);
        due("bar", x.bar(TOLD, 3), 1);
        due("show in place of a row", x.show(0, 1), 1);
        due("holds", x.holds(0), 11);
        due("show none", x.show(1, NONE), 1);
        due("holds nothing", x.holds(1), NONE);
        due("no bar", x.show(0, 2), BAD);
        due("below NONE", x.show(0, -2), BAD);
        due("no shelf", x.show(8, 0), BAD);
        due("no shelf", x.show(-1, NONE), BAD);
        due("still", x.holds(0), 11);
    }

    private static void says() {
        part(8);
        RingsOff x = new RingsOff();
        due("bars", read(x, "bar 0 5 on 22; bar 1 5 on 22; bar 2 5 on 22; bar 4 5 on 22"), 4);
        for (int bar = 0; bar < 4; bar++) {
            due("show", x.show(bar, bar), 1);
            due("BAR", x.says(bar, BAR), 3);
        }
        due("CHAIN of a CHAIN", x.says(1, CHAIN), 27);
        due("CHAIN of a PAIR", x.says(2, CHAIN), 27);
        due("CHAIN of an AFTER", x.says(3, CHAIN), 9);
        int[] toAllOff = {0, 1, 2, 1, 5, 5, 3, 4};
        for (int set = 0; set < 8; set++) {
            x.put(2, set);
            due("PAIR " + set, x.says(2, PAIR), toAllOff[set]);
        }
        due("AFTER", x.says(3, AFTER), 4);
        due("put", x.put(3, 0), 22);
        due("AFTER of none", x.says(3, AFTER), NONE);
        due("CHAIN of none", x.says(3, CHAIN), 0);
        due("put", x.put(3, 1), 0);
        due("AFTER of ring 0", x.says(3, AFTER), 0);
        due("put", x.put(2, 22), 7);
        due("stick", x.stick(2, 16), 0);
        due("never", x.says(2, PAIR), NONE);
        int[][] others = {{0, CHAIN}, {0, PAIR}, {0, TWO}, {0, AFTER}, {0, TOLD}, {1, PAIR}, {1, TWO},
            {1, AFTER}, {1, TOLD}, {2, TWO}, {2, AFTER}, {2, TOLD}, {3, PAIR}, {3, TWO}, {3, TOLD}};
        for (int[] other : others) {
            due("of no such kind " + other[0] + " " + other[1], x.says(other[0], other[1]), OTHER);
        }
        due("OTHER counted", x.status(13), others.length);
        due("NONE not refused", x.status(12), 0);
        due("no shelf", x.says(8, BAR), BAD);
        due("no shelf", x.says(-1, BAR), BAD);
        due("no kind", x.says(0, 6), BAD);
        due("no kind", x.says(7, -1), BAD);
        due("nothing", x.says(7, BAR), NOTHING);
        withRow(x, 7, 0);
        due("a row", x.says(7, BAR), OTHER);

        x = new RingsOff();
        due("bars", read(x, "bar 3 4 on 6; bar 5 6; table 1 0 1 0; table 1 1 0 2; table 1 2 3 4; table 1 3 0 0"), 6);
        x.show(0, 0);
        x.show(1, 1);
        due("TWO", x.says(0, TWO), 4);
        due("put", x.put(0, 0), 6);
        due("TWO of none", x.says(0, TWO), 2);
        due("stick", x.stick(0, 1), 0);
        due("TWO with one stuck", x.says(0, TWO), 1);
        due("TOLD", x.says(1, TOLD), 3);
        due("TWO of CHAIN", x.says(0, CHAIN), OTHER);
    }

    private static void promises9To15() {
        part(9);
        RingsOff x = new RingsOff();
        due("kind below", x.bar(-1, 1), BAD);
        due("kind above", x.bar(6, 1), BAD);
        due("size below", x.bar(0, 0), BAD);
        due("size above", x.bar(0, 11), BAD);
        for (int bar = 0; bar < 3; bar++) {
            due("number", x.bar(bar + 2, 1), bar);
        }
        due("number", x.bar(TOLD, 10), 3);
        due("all on", x.barOf(3, 2), 1023);
        due("none stuck", x.barOf(3, 3), 0);
        due("no must", x.barOf(3, 19), 0);
        due("no not", x.barOf(3, 29), 0);
        due("full", x.bar(BAR, 1), FULL);
        due("bad ahead of full", x.bar(BAR, 11), BAD);
        due("a told bar", x.table(3, 9, 1, 2), 1);
        due("stuck", x.stick(3, 5), 0);
        due("drop", x.drop(), 3);
        due("again", x.bar(TOLD, 10), 3);
        due("with no table", x.barOf(3, 19) + x.barOf(3, 29), 0);
        due("with none stuck", x.barOf(3, 3), 0);

        part(10);
        x = new RingsOff();
        due("bar", x.bar(CHAIN, 3), 0);
        due("put", x.put(0, 0), 7);
        due("put", x.put(0, 7), 0);
        due("put", x.put(0, 5), 7);
        due("too great", x.put(0, 8), BAD);
        due("below", x.put(0, -1), BAD);
        due("no bar", x.put(1, 0), BAD);
        due("no bar", x.put(-1, 0), BAD);
        due("on", x.barOf(0, 2), 5);
        due("no move", x.status(3), 0);

        part(11);
        due("stick", x.stick(0, 7), 0);
        due("stick", x.stick(0, 2), 7);
        due("too great", x.stick(0, 8), BAD);
        due("below", x.stick(0, -1), BAD);
        due("no bar", x.stick(1, 0), BAD);
        due("stuck", x.barOf(0, 3), 2);

        part(12);
        due("bar", x.bar(TOLD, 4), 1);
        due("table", x.table(1, 3, 15, 9), 1);
        due("must", x.barOf(1, 13), 15);
        due("not", x.barOf(1, 23), 9);
        due("table again", x.table(1, 3, 0, 1), 1);
        due("must", x.barOf(1, 13), 0);
        due("no ring", x.table(1, 4, 0, 0), BAD);
        due("no ring", x.table(1, -1, 0, 0), BAD);
        due("no must", x.table(1, 0, 16, 0), BAD);
        due("no must", x.table(1, 0, -1, 0), BAD);
        due("no not", x.table(1, 0, 0, 16), BAD);
        due("no not", x.table(1, 0, 0, -1), BAD);
        due("no bar", x.table(2, 0, 0, 0), BAD);
        due("not told", x.table(0, 0, 0, 0), STUCK);
        due("bad ahead of stuck", x.table(0, 3, 0, 0), BAD);

        part(13);
        due("minutes", x.minutes(9, 99), 1);
        due("minutes", x.minutes(9, 0), 99);
        due("minutes", x.minutes(0, 7), 1);
        due("no ring", x.minutes(10, 1), BAD);
        due("no ring", x.minutes(-1, 1), BAD);
        due("too many", x.minutes(0, 100), BAD);
        due("too few", x.minutes(0, -1), BAD);
        due("together", x.status(4), 15);

        part(14);
        x = new RingsOff();
        due("below", x.feed(-1), BAD);
        due("above", x.feed(256), BAD);
        for (int i = 0; i < 250; i++) {
            due("feed", x.feed(i % 2 == 0 ? 255 : 0), i + 1);
        }
        due("full", x.feed(0), FULL);
        due("bad ahead of full", x.feed(256), BAD);
        due("size", x.status(5), 250);

        part(15);
        due("wipe", x.wipe(), 250);
        due("wipe of nothing", x.wipe(), 0);
        due("feed", x.feed(0), 1);
    }

    private static void tape() {
        part(16);
        RingsOff x = new RingsOff();
        due("bars", read(x, "  bar0 10;bar5 03on0005 ;stuck 1 6;table 1 2 7 0;minutes 9 99;move 0 9"), 6);
        due("kind", x.barOf(0, 0), BAR);
        due("size", x.barOf(0, 1), 10);
        due("moved", x.barOf(0, 2), 511);
        due("kind", x.barOf(1, 0), TOLD);
        due("on", x.barOf(1, 2), 5);
        due("stuck", x.barOf(1, 3), 6);
        due("must", x.barOf(1, 12), 7);
        due("minutes", x.status(4), 108);
        due("moved", x.status(3), 1);
        due("tape", x.status(5), 0);
        due("more", read(x, "table 1 2 0 3;move 0 9;stuck 0 1"), 3);
        due("must", x.barOf(1, 12), 0);
        due("not", x.barOf(1, 22), 3);
        due("on", x.barOf(0, 2), 1023);
        due("both at once", read(x, "bar 2 2;move 2 20;move 2 20;move 2 1"), 4);
        due("on", x.barOf(2, 2), 1);
        due("moved", x.status(3), 5);
        due("not refused", x.status(12), 0);

        fault("", 0);
        fault("   ", 3);
        fault("bar", 3);
        fault("bar ", 4);
        fault("bar 1", 5);
        fault("bar 1 1 on", 10);
        fault("bar 1 1 on ", 11);
        fault("bar 1 1;", 8);
        fault("bar 1 1; ", 9);
        fault("bar 6 1", 4);
        fault("bar 1 0", 6);
        fault("bar 1 11", 6);
        fault("bar 00001 1", 4);
        fault("bar 0001 1 on 00001", 14);
        fault("bar 1 2 on 4", 11);
        fault("bar 1 10 on 1024", 12);
        fault("bar 1 1 on on", 11);
        fault("bar 1 1 on 1 on 1", 13);
        fault("bar 1 1 1", 8);
        fault("bar 1 1 bar 1 1", 8);
        fault("bar on", 4);
        fault("bars 1 1", 0);
        fault("ba r", 0);
        fault("barz 1 1", 0);
        fault("zbar 1 1", 0);
        fault("bar 1 1 onz 1", 8);
        fault("bar 1 1`", 7);
        fault("bar 1 1{", 7);
        fault("bar 1/1", 5);
        fault("bar 1:1", 5);
        fault("bar 9 10", 4);
        fault(" on", 1);
        fault("Bar 1 1", 0);
        fault(";bar 1 1", 0);
        fault("1", 0);
        fault("bar 1 1;;", 8);
        fault("bar 1 1\n", 7);
        fault("bar 1 1,", 7);
        fault("bar 1 -1", 6);
        fault("bar 1 1 on 1 ?", 13);
        fault("bar 99999999999 1", 4);
        fault("bar 4294967297 1", 4);
        fault("stuck 0 0", 6);
        fault("bar 0 2;stuck 0 4", 16);
        fault("bar 0 2;stuck 0", 15);
        fault("bar 0 2;stuck 1 0", 14);
        fault("bar 0 2;table 0 9 9 9", 14);
        fault("bar 5 2;table 0 2 0 0", 16);
        fault("bar 5 2;table 0 1 4 0", 18);
        fault("bar 5 2;table 0 1 0 4", 20);
        fault("bar 5 2;table 1 1 0 4", 14);
        fault("bar 5 2;table 0 1 0", 19);
        fault("minutes 10 0", 8);
        fault("minutes 9 100", 10);
        fault("minutes 9 0099;minutes", 22);
        fault("bar 1 3;move 0 2", 15);
        fault("bar 1 3;move 0 3", 15);
        fault("bar 1 3;move 0 20", 15);
        fault("bar 2 1;move 0 20", 15);
        fault("bar 2 2 on 1;move 0 20", 20);
        fault("bar 1 3;move 1 0", 13);
        fault("bar 2 2;move 0 00020", 15);
        fault("bar 1 3;move 0", 14);
        fault("bar 0 1;bar 0 1;bar 0 1;bar 0 1;bar 9", 32);
        fault("bar 0 1;bar 0 1;bar 0 1;bar 0 1;bar", 32);
        fault("bar 0 1;stuck 0 1;move 0 0", 25);

        x = new RingsOff();
        due("bars", read(x, "bar 5 3 on 1;minutes 1 5"), 2);
        faultIn(x, "move 0 0;stuck 0 1;table 0 0 1 1;minutes 1 6;bar 1 1;move 0 9", 60);
        due("still on", x.barOf(0, 2), 1);
        due("still not stuck", x.barOf(0, 3), 0);
        due("still no must", x.barOf(0, 10) + x.barOf(0, 20), 0);
        due("still these minutes", x.status(4), 14);
        due("still one bar", x.status(0), 1);
        due("still not moved", x.status(3), 0);
        StringBuilder many = new StringBuilder("move 0 0");
        for (int i = 1; i < 27; i++) {
            many.append(";move 0 0");
        }
        due("27 moves", read(x, many.append("       ").toString()), 27);
        due("27 moved", x.status(3), 27);
        RingsOff full = new RingsOff();
        due("bars", read(full, "bar 0 1;bar 0 1;bar 0 1"), 3);
        faultIn(full, "bar 0 1;bar 0 1", 8);
        due("three", full.status(0), 3);
    }

    private static void promises17To20() {
        part(17);
        RingsOff x = new RingsOff();
        due("bars", read(x, "bar 5 3 on 2;stuck 0 4;table 0 0 1 2;table 0 2 3 4;bar 1 2"), 5);
        int[][] whats = {{0, 0, TOLD}, {0, 1, 3}, {0, 2, 2}, {0, 3, 4}, {0, 10, 1}, {0, 11, 0}, {0, 12, 3},
            {0, 20, 2}, {0, 21, 0}, {0, 22, 4}, {1, 0, CHAIN}, {1, 10, 0}, {1, 11, 0}, {1, 20, 0}, {1, 21, 0},
            {0, 4, BAD}, {0, 9, BAD}, {0, 13, BAD}, {0, 19, BAD}, {0, 23, BAD}, {1, 12, BAD}, {1, 22, BAD},
            {0, -1, BAD}, {0, Integer.MIN_VALUE, BAD}, {0, Integer.MAX_VALUE, BAD}, {2, 0, BAD}, {-1, 0, BAD}};
        for (int[] what : whats) {
            due("barOf " + what[0] + " " + what[1], x.barOf(what[0], what[1]), what[2]);
        }

        part(18);
        x = new RingsOff();
        due("bars", read(x, "bar 0 4 on 6;bar 1 4 on 6;bar 2 4 on 4;bar 2 1"), 4);
        int[][] mays = {{0, 3, 1}, {1, 0, 1}, {1, 1, 0}, {1, 2, 1}, {1, 3, 0}, {2, 20, 1}, {2, 3, 1}, {2, 2, 0},
            {0, 20, BAD}, {1, 20, BAD}, {3, 20, BAD}, {0, 4, BAD}, {0, -1, BAD}, {3, 1, BAD}, {2, 19, BAD},
            {2, 21, BAD}, {4, 0, BAD}, {4, 20, BAD}, {-1, 20, BAD}};
        for (int[] may : mays) {
            due("may " + may[0] + " " + may[1], x.may(may[0], may[1]), may[2]);
        }
        due("stick", x.stick(2, 2), 0);
        due("both at once with one stuck", x.may(2, 20), 0);
        due("both of just two", with(PAIR, 2, 0).may(0, 20), 1);
        due("not refused", x.status(15), 0);

        part(19);
        int both = 1 << 20;
        int[][] moves = {{BAR, 6, 0, 15}, {BAR, 6, 5, 10}, {CHAIN, 6, 0, 5}, {CHAIN, 0, 0, 1}, {CHAIN, 8, 0, 1},
            {CHAIN, 6, 4, 1}, {PAIR, 7, 0, 3 | both}, {PAIR, 4, 0, 9 | both}, {PAIR, 2, 0, 5}, {PAIR, 3, 1, 2},
            {AFTER, 6, 0, 10}, {AFTER, 0, 0, 8}, {AFTER, 1, 0, 8}, {AFTER, 15, 0, 12}, {AFTER, 3, 9, 0},
            {TWO, 6, 0, 15}, {TWO, 2, 0, 13}, {TWO, 0, 0, 9}, {TWO, 0, 9, 0}};
        for (int[] row : moves) {
            RingsOff y = with(row[0], 4, row[1]);
            due("stick", y.stick(0, row[2]), 0);
            due("moves of kind " + row[0] + " on " + row[1] + " stuck " + row[2], y.moves(0), row[3]);
        }
        RingsOff told = new RingsOff();
        due("told", read(told, "bar 5 4 on 5;table 0 0 1 0;table 0 1 0 2;table 0 2 2 0;table 0 3 5 10"), 5);
        due("moves of told", told.moves(0), 11);
        due("no bar", told.moves(1), BAD);
        due("no bar", told.moves(-1), BAD);

        part(20);
        x = with(PAIR, 3, 7);
        due("move", x.move(0, 1), 5);
        due("may not", x.move(0, 20), STUCK);
        due("move", x.move(0, 1), 7);
        due("both", x.move(0, 20), 4);
        due("both", x.move(0, 20), 7);
        due("no move", x.move(0, 3), BAD);
        due("no move", x.move(1, 0), BAD);
        due("both of a chain", with(CHAIN, 3, 7).move(0, 20), BAD);
        due("moved", x.status(3), 4);
    }

    private static void ways() {
        part(21);
        RingsOff x = with(CHAIN, 5, 31);
        due("there", x.fewest(0, 31), 0);
        due("to all off", x.fewest(0, 0), 21);
        due("to the end", x.fewest(0, 16), 10);
        due("stick", x.stick(0, 16), 0);
        due("never", x.fewest(0, 0), NONE);
        due("too great", x.fewest(0, 32), BAD);
        due("below", x.fewest(0, -1), BAD);
        due("no bar", x.fewest(1, 0), BAD);
        due("NONE not refused", x.status(12), 3);
        due("TWO", with(TWO, 4, 15).fewest(0, 0), 4);
        RingsOff oneWay = new RingsOff();
        due("told", read(oneWay, "bar 5 2;table 0 0 1 0;table 0 1 2 1"), 3);
        due("off, ring 0 ahead", oneWay.fewest(0, 0), 2);
        due("not ring 1 alone", oneWay.fewest(0, 1), NONE);

        part(22);
        due("the first move", oneWay.way(0, 0, 0), 0);
        due("the second move", oneWay.way(0, 0, 1), 1);
        due("no third", oneWay.way(0, 0, 2), STUCK);
        due("no way", oneWay.way(0, 1, 0), STUCK);
        x = with(BAR, 4, 10);
        int[] flips = {0, 1, 2, 3};
        for (int i = 0; i < 4; i++) {
            due("less ahead of more", x.way(0, 5, i), flips[i]);
        }
        due("there already", x.way(0, 10, 0), STUCK);
        due("i below", x.way(0, 5, -1), BAD);
        due("i most", x.way(0, 5, Integer.MAX_VALUE), STUCK);
        due("no set", x.way(0, 16, 0), BAD);
        due("no bar", x.way(1, 0, 0), BAD);
        x = with(PAIR, 3, 7);
        due("both at once on the way", x.way(0, 4, 0), 20);
        due("only", x.way(0, 4, 1), STUCK);

        part(23);
        x = with(AFTER, 4, 0);
        due("from 8 to 0", x.between(0, 8, 0), 1);
        due("from 15 to 0", x.between(0, 15, 0), 10);
        due("from 0 to 1", x.between(0, 0, 1), 15);
        due("from itself", x.between(0, 5, 5), 0);
        due("told, with the way", oneWay.between(0, 3, 2), 1);
        due("told, against it", oneWay.between(0, 2, 3), NONE);
        due("no from", x.between(0, 16, 0), BAD);
        due("no from", x.between(0, -1, 0), BAD);
        due("no to", x.between(0, 0, 16), BAD);
        due("no to", x.between(0, 0, -1), BAD);
        due("no bar", x.between(1, 0, 0), BAD);
        due("nothing moved", x.barOf(0, 2), 0);
        due("NONE not refused", oneWay.status(12), 0);
    }

    private static void lines() {
        part(24);
        RingsOff x = new RingsOff();
        long[][] places = {{0, 0}, {1, 1}, {3, 2}, {2, 3}, {6, 4}, {7, 5}, {5, 6}, {4, 7}, {12, 8},
            {LINE - 1, 768614336404564650L}, {LINE >> 1, LINE - 1}};
        for (long[] row : places) {
            due("place of " + row[0], x.place(row[0]), row[1]);
            part(25);
            due("set of " + row[1], x.setOf(row[1]), row[0]);
            part(24);
        }
        due("below", x.place(-1), BAD);
        due("above", x.place(LINE), BAD);
        due("least", x.place(Long.MIN_VALUE), BAD);
        due("most", x.place(Long.MAX_VALUE), BAD);
        due("refused", x.status(12), 4);
        part(25);
        due("below", x.setOf(-1), BAD);
        due("above", x.setOf(LINE), BAD);
        due("least", x.setOf(Long.MIN_VALUE), BAD);
        due("refused", x.status(12), 7);
    }

    private static void reaches() {
        part(26);
        RingsOff told = new RingsOff();
        due("told", read(told, "bar 5 3;table 0 0 1 0;table 0 1 2 1;table 0 2 4 3"), 4);
        due("reach one way", told.reach(0), 4);
        RingsOff still = with(CHAIN, 3, 5);
        due("stick", still.stick(0, 7), 0);
        due("that one alone", still.reach(0), 1);
        due("all", with(PAIR, 10, 3).reach(0), 1024);
        RingsOff half = with(CHAIN, 4, 11);
        due("stick", half.stick(0, 4), 0);
        due("below the stuck", half.reach(0), 4);
        due("no bar", half.reach(1), BAD);
        due("no bar", half.reach(-1), BAD);

        part(27);
        due("set", told.farthest(0, 0), 0);
        due("fewest", told.farthest(0, 1), 3);
        due("set of a cube", with(BAR, 4, 3).farthest(0, 0), 12);
        due("fewest of a cube", with(BAR, 4, 3).farthest(0, 1), 4);
        due("of several the least", with(CHAIN, 3, 0).farthest(0, 0), 4);
        RingsOff ring = with(BAR, 3, 3);
        due("stick", ring.stick(0, 1), 0);
        due("alone in reach", ring.farthest(0, 0), 5);
        RingsOff pair = with(PAIR, 2, 0);
        due("three as far: the least", pair.farthest(0, 0), 2);
        due("there", still.farthest(0, 0), 5);
        due("none", still.farthest(0, 1), 0);
        due("no what", still.farthest(0, 2), BAD);
        due("no what", still.farthest(0, -1), BAD);
        due("no bar", still.farthest(1, 0), BAD);
        RingsOff two = with(TWO, 2, 0);
        due("the far corner", two.farthest(0, 0), 3);
        RingsOff several = new RingsOff();
        due("told", read(several, "bar 5 3 on 0;table 0 0 0 7;table 0 1 0 7;table 0 2 0 7"), 4);
        due("of several the least as bits", several.farthest(0, 0), 1);

        part(28);
        due("a line one way", told.shape(0), 0);
        due("a line of one", still.shape(0), 0);
        due("rounds", with(BAR, 2, 0).shape(0), 2);
        due("a line of two", with(BAR, 1, 0).shape(0), 0);
        due("a pair's rounds", with(PAIR, 3, 0).shape(0), 2);
        due("a tree", several.shape(0), 1);
        due("no bar", several.shape(1), BAD);
        RingsOff against = new RingsOff();
        due("told", read(against, "bar 5 2;table 0 0 1 2;table 0 1 2 1"), 3);
        due("come to from one alone", against.shape(0), 0);
        RingsOff round = new RingsOff();
        due("told", read(round, "bar 5 2 on 3;table 0 0 1 0;table 0 1 2 0"), 3);
        due("four pairs of four", round.shape(0), 2);

        part(29);
        due("one", with(CHAIN, 5, 3).parts(0), 1);
        due("all stuck", still.parts(0), 8);
        due("one stuck", half.parts(0), 3);
        due("joined one way", told.parts(0), 1);
        due("not joined", several.parts(0), 5);
        due("no bar", several.parts(1), BAD);

        part(30);
        due("a line", with(CHAIN, 6, 0).longest(0), 63);
        due("a cube", with(BAR, 6, 0).longest(0), 6);
        due("one way", told.longest(0), 3);
        due("stuck", still.longest(0), 0);
        due("too large", with(CHAIN, 7, 0).longest(0), STUCK);
        due("no bar", still.longest(1), BAD);

        part(31);
        int[] saves = {0, 1, 1, 3, 5, 11, 21, 43, 85, 171};
        RingsOff x = new RingsOff();
        for (int n = 1; n <= 10; n++) {
            due("save " + n, x.save(n), saves[n - 1]);
        }
        due("below", x.save(0), BAD);
        due("above", x.save(11), BAD);
        due("whatever is stuck", still.save(9), 85);

        part(36);
        due("all", with(CHAIN, 5, 0).movable(0), 31);
        due("below the stuck", half.movable(0), 3);
        due("none", still.movable(0), 0);
        due("both at once", with(PAIR, 2, 3).movable(0), 3);
        due("no bar", still.movable(1), BAD);

        part(37);
        due("a line's", with(CHAIN, 5, 3).ends(0), 2);
        due("below the stuck", half.ends(0), 2);
        due("none", still.ends(0), 0);
        due("one way", told.ends(0), 3);
        due("a pair's far end", with(PAIR, 3, 0).ends(0), 0);
        due("of size 1", with(PAIR, 1, 0).ends(0), 2);
        due("no bar", still.ends(1), BAD);

        part(38);
        due("at once", with(CHAIN, 4, 15).first(0, 1), 1);
        due("the last", with(CHAIN, 4, 15).first(0, 3), 3);
        due("both at once move ring 1", with(PAIR, 4, 0).first(0, 1), 1);
        due("without it", with(CHAIN, 4, 0).first(0, 1), 2);
        due("never", half.first(0, 3), NONE);
        due("stuck", half.first(0, 2), NONE);
        due("no ring", half.first(0, 4), BAD);
        due("no ring", half.first(0, -1), BAD);
        due("no bar", half.first(1, 0), BAD);
        due("NONE not refused", half.status(12), 5);
    }

    private static void minutes() {
        part(32);
        long[] mean = new long[8];
        for (int set = 0; set < 8; set++) {
            RingsOff x = with(CHAIN, 3, set);
            mean[(int) x.place(set)] = x.luck(0);
        }
        due("all off", mean[0], 0);
        due("the other end", mean[7], 1 + mean[6]);
        for (int p = 1; p < 7; p++) {
            due("between two", 2 * mean[p], 2 + mean[p - 1] + mean[p + 1]);
        }
        RingsOff x = with(CHAIN, 3, 0);
        due("stick", x.stick(0, 4), 0);
        due("stuck", x.luck(0), STUCK);
        due("a PAIR", with(PAIR, 3, 0).luck(0), STUCK);
        due("an AFTER", with(AFTER, 3, 0).luck(0), STUCK);
        due("a BAR", with(BAR, 3, 0).luck(0), STUCK);
        due("no bar", x.luck(1), BAD);

        part(33);
        x = with(CHAIN, 3, 7);
        due("minutes", x.minutes(0, 10), 1);
        due("minutes", x.minutes(1, 0), 1);
        due("minutes", x.minutes(2, 99), 1);
        due("to all off", x.time(0, 0), 129);
        due("there", x.time(0, 7), 0);
        due("there and further", x.time(0, 5), 0);
        due("stick", x.stick(0, 4), 0);
        due("no way", x.time(0, 0), NONE);
        due("no set", x.time(0, 8), BAD);
        due("no set", x.time(0, -1), BAD);
        due("no bar", x.time(1, 0), BAD);
        x = with(PAIR, 3, 7);
        due("minutes", x.minutes(0, 3), 1);
        due("minutes", x.minutes(1, 8), 1);
        due("the greater of both", x.time(0, 4), 8);
        due("minutes", x.minutes(0, 9), 3);
        due("the greater of both", x.time(0, 4), 9);

        part(34);
        x = with(CHAIN, 3, 7);
        due("minutes", x.minutes(0, 10), 1);
        due("minutes", x.minutes(1, 3), 1);
        due("minutes", x.minutes(2, 50), 1);
        int[][] bells = {{0, 1, 10}, {0, 2, 70}, {0, 3, 83}, {0, 4, NONE}, {2, 1, 60}, {2, 2, NONE}, {1, 1, 73},
            {1, 2, NONE}, {3, 1, BAD}, {-1, 1, BAD}, {0, 0, BAD}, {0, -1, BAD}, {0, Integer.MAX_VALUE, NONE}};
        for (int[] bell : bells) {
            due("bell " + bell[0] + " " + bell[1], x.bell(0, bell[0], bell[1]), bell[2]);
        }
        due("no bar", x.bell(1, 0, 1), BAD);
        due("NONE not refused", x.status(12), 5);
        due("stick", x.stick(0, 4), 0);
        due("no way", x.bell(0, 0, 1), NONE);
        x = with(PAIR, 2, 3);
        due("minutes", x.minutes(1, 7), 1);
        due("ring 0 with both", x.bell(0, 0, 1), 7);
        due("ring 1 with both", x.bell(0, 1, 1), 7);

        part(35);
        x = new RingsOff();
        int[] fewest = {1, 2, 5, 10, 21, 42, 85, 170, 341, 682};
        for (int size = 1; size <= 10; size++) {
            due("just so long", x.lock(fewest[size - 1]), size);
            due("a minute more", x.lock(fewest[size - 1] + 1), size == 10 ? NONE : size + 1);
        }
        due("none", x.lock(0), 1);
        due("below", x.lock(-1), BAD);
        due("most", x.lock(99999), NONE);
        due("above", x.lock(100000), BAD);
        due("NONE not refused", x.status(12), 2);
        due("minutes", x.minutes(0, 0), 1);
        due("with no minutes for ring 0", x.lock(1), 2);
        due("minutes", x.minutes(9, 99), 1);
        due("with more for ring 9", x.lock(440), NONE);
        due("with more for ring 9", x.lock(439), 10);
    }

    private static void chances() {
        part(39);
        RingsOff x = with(CHAIN, 2, 3);
        due("no move, there", x.chance(0, 3, 0), 1000000);
        due("no move, elsewhere", x.chance(0, 1, 0), 0);
        due("one", x.chance(0, 1, 1), 500000);
        due("two", x.chance(0, 3, 2), 750000);
        due("three", x.chance(0, 2, 3), 375000);
        due("too many", x.chance(0, 0, 21), BAD);
        due("below", x.chance(0, 0, -1), BAD);
        due("no set", x.chance(0, 4, 0), BAD);
        due("no set", x.chance(0, -1, 0), BAD);
        due("no bar", x.chance(1, 0, 0), BAD);
        due("stick", x.stick(0, 3), 0);
        due("it stays", x.chance(0, 3, 20), 1000000);
        RingsOff cut = with(BAR, 3, 0);
        due("cut", cut.chance(0, 1, 1), 333333);
        due("cut twice", cut.chance(0, 0, 2), 333333);
        due("cut at each set", cut.chance(0, 3, 2), 222222);
        RingsOff trap = new RingsOff();
        due("told", read(trap, "bar 5 2;table 0 0 3 0;table 0 1 3 0"), 3);
        due("it stays", trap.chance(0, 1, 20), 500000);
        due("both at once is a move, too", with(PAIR, 2, 0).chance(0, 3, 1), 500000);
        due("20 moves", with(BAR, 1, 0).chance(0, 0, 20), 1000000);
    }

    private static void pictures() {
        part(40);
        RingsOff x = withRow(with(CHAIN, 3, 7), 0, 2, 5, 7, 0, 4);
        due("one", x.pictures(0, 1, 0), 1);
        due("all", x.pictures(0, 4, 0), 14);
        due("bar", x.bar(BAR, 2), 1);
        due("no sets of that bar", x.pictures(0, 1, 1), BAD);
        due("fewer elements", x.pictures(0, 5, 0), BAD);
        due("n below", x.pictures(0, 0, 0), BAD);
        due("n above", x.pictures(0, 11, 0), BAD);
        due("no shelf", x.pictures(8, 1, 0), BAD);
        due("no bar", x.pictures(7, 1, 2), BAD);
        due("nothing", x.pictures(7, 5, 0), NOTHING);
        due("show", x.show(7, 0), 1);
        due("a bar", x.pictures(7, 5, 0), OTHER);
        withRow(x, 1, 3, 5, -1, 1L << 32);
        due("a set of them", x.pictures(1, 1, 0), 1);
        due("no set", x.pictures(1, 2, 0), BAD);
        due("set", x.set(1, 1, 0), 1);
        due("no set, however long", x.pictures(1, 3, 0), BAD);
        withRow(x, 2, 0, 0, 0, 0, 0, 0, 0, 0, 0, 0, 1, 1);
        due("ten", x.pictures(2, 10, 0), 6);
        due("eleven", x.pictures(2, 11, 0), BAD);

        part(41);
        due("none broken", x.broken(0, 4, 0), NONE);
        due("stick", x.stick(0, 4), 0);
        due("the third", x.broken(0, 4, 0), 2);
        part(40);
        due("broken", x.pictures(0, 4, 0), NONE);
        part(41);
        due("none of the first", x.broken(0, 2, 0), NONE);
        due("n", x.broken(0, 0, 0), BAD);
        due("a bar", x.broken(7, 1, 0), OTHER);
        due("nothing", x.broken(6, 1, 0), NOTHING);
        due("no set", x.broken(1, 3, 0), BAD);

        part(42);
        due("by the stuck ring", x.once(0, 4, 0), 2);
        due("none broken", x.once(0, 2, 0), STUCK);
        due("n", x.once(0, 0, 0), BAD);
        due("a bar", x.once(7, 1, 0), OTHER);
        due("nothing", x.once(6, 1, 0), NOTHING);
        due("fewer", x.once(0, 5, 0), BAD);
        RingsOff all = withRow(with(BAR, 2, 3), 0, 0, 0);
        due("stick", all.stick(0, 3), 0);
        due("broken at once", all.broken(0, 1, 0), 0);
        due("no ring would do", all.once(0, 1, 0), NONE);
        due("put", all.put(0, 2), 3);
        due("from how it is", all.once(0, 1, 0), 1);
        RingsOff least = withRow(with(CHAIN, 3, 3), 0, 0, 0);
        due("stick", least.stick(0, 1), 0);
        due("least", least.once(0, 1, 0), NONE);
        RingsOff told = withRow(new RingsOff(), 0, 1, 7, 3);
        due("told", read(told, "bar 5 3;table 0 0 1 0;table 0 1 0 0;table 0 2 0 1;stuck 0 4"), 5);
        due("the second", told.broken(0, 2, 0), 1);
        due("ring 2 alone", told.once(0, 2, 0), 2);
        due("nothing changed", told.barOf(0, 2), 7);
        due("stuck as it was", told.barOf(0, 3), 4);
        RingsOff back = withRow(new RingsOff(), 0, 1, 3);
        due("told", read(back, "bar 5 2 on 0;table 0 0 3 0;table 0 1 0 0"), 3);
        due("the least of two", back.once(0, 1, 0), 0);
    }

    private static void rowsOfMoves() {
        part(43);
        RingsOff x = withRow(with(PAIR, 3, 7), 0, 0, 20, 0, 1, 0);
        due("none", x.judge(0, 0, 0), NONE);
        due("ring 1 may", x.judge(0, 3, 0), NONE);
        due("all may", x.judge(0, 4, 0), NONE);
        withRow(x, 1, 3, 0, 0, 0, 1, 0);
        due("ring 1 may not", x.judge(1, 4, 0), 3);
        due("ahead of it all may", x.judge(1, 3, 0), NONE);
        withRow(x, 2, 3, 0, 1L << 32, -1);
        due("no move, however long", x.judge(2, 2, 0), 1);
        due("set", x.set(2, 1, 19), 1);
        due("no move", x.judge(2, 2, 0), 1);
        due("set", x.set(2, 1, -1), 1);
        due("no move", x.judge(2, 2, 0), 1);
        due("bar", x.bar(CHAIN, 2), 1);
        due("both of a chain", x.judge(0, 1, 1), 0);
        due("fewer", x.judge(0, 5, 0), BAD);
        due("n below", x.judge(0, -1, 0), BAD);
        due("n above", x.judge(0, 41, 0), BAD);
        due("no shelf", x.judge(-1, 0, 0), BAD);
        due("no bar", x.judge(0, 0, 2), BAD);
        due("nothing", x.judge(7, 40, 0), NOTHING);
        due("show", x.show(7, 0), 1);
        due("a bar", x.judge(7, 40, 0), OTHER);

        part(44);
        due("behind none", x.behind(0, 0, 0), 7);
        due("behind one", x.behind(0, 1, 0), 4);
        due("behind all", x.behind(0, 4, 0), 6);
        due("may not", x.behind(1, 4, 0), STUCK);
        due("fewer", x.behind(0, 5, 0), BAD);
        due("n", x.behind(0, 41, 0), BAD);
        due("nothing", x.behind(6, 1, 0), NOTHING);
        due("a bar", x.behind(7, 1, 0), OTHER);
        due("in thought", x.barOf(0, 2), 7);

        part(45);
        due("none", x.moved(0, 0, 0), 7);
        due("may not", x.moved(1, 4, 0), STUCK);
        due("nothing by it", x.barOf(0, 2), 7);
        due("nothing moved", x.status(3), 0);
        due("all", x.moved(0, 4, 0), 6);
        due("in truth", x.barOf(0, 2), 6);
        due("moved", x.status(3), 4);
        due("fewer", x.moved(0, 5, 0), BAD);
        due("n", x.moved(0, -1, 0), BAD);
        due("nothing", x.moved(6, 1, 0), NOTHING);
        due("a bar", x.moved(7, 1, 0), OTHER);
        due("no bar", x.moved(7, 1, 2), BAD);
    }

    private static void games() {
        part(46);
        for (int size = 1; size <= 3; size++) {
            for (int set = 0; set < 1 << size; set++) {
                RingsOff x = with(CHAIN, size, set);
                int place = (int) x.place(set);
                int last = (1 << size) - 1;
                boolean down = place % 2 == 1;
                boolean up = (last - place) % 2 == 1;
                due("a line: an odd way wins, " + set, x.game(0, 0), down || up ? 1 : 0);
                int move = x.game(0, 1);
                long other = move == NONE ? NONE : x.place(set ^ 1 << move);
                CHECKS.holds("towards an odd way", move == NONE
                        || (other < place ? down : up));
            }
        }
        due("a square is won", with(BAR, 2, 0).game(0, 0), 1);
        due("the least that wins", with(BAR, 2, 0).game(0, 1), 0);
        RingsOff still = with(BAR, 3, 0);
        due("stick", still.stick(0, 7), 0);
        due("who can't has lost", still.game(0, 0), 0);
        due("none wins", still.game(0, 1), NONE);
        RingsOff told = new RingsOff();
        due("told", read(told, "bar 5 3;table 0 0 7 0;table 0 1 6 0;table 0 2 2 2"), 4);
        due("one wins", told.game(0, 0), 1);
        due("not ring 0, whose set has a way on", told.game(0, 1), 1);
        due("both at once", with(PAIR, 2, 0).game(0, 0), 1);
        due("too large", with(BAR, 4, 0).game(0, 0), STUCK);
        due("no what", with(BAR, 4, 0).game(0, 2), BAD);
        due("no what", with(BAR, 3, 0).game(0, -1), BAD);
        due("no bar", still.game(1, 0), BAD);
        due("NONE not refused", still.status(12), 1);
    }

    private static void movesInTruth() {
        part(47);
        RingsOff x = with(CHAIN, 4, 15);
        due("some", x.goes(0, 0, 3), 3);
        due("on", x.barOf(0, 2), 4);
        due("until it is so", x.goes(0, 0, 60), 7);
        due("on", x.barOf(0, 2), 0);
        due("it is so", x.goes(0, 0, 1), 0);
        due("moved", x.status(3), 10);
        due("n below", x.goes(0, 0, 0), BAD);
        due("n above", x.goes(0, 0, 61), BAD);
        due("no set", x.goes(0, 16, 1), BAD);
        due("no bar", x.goes(1, 0, 1), BAD);
        due("stick", x.stick(0, 8), 0);
        due("no way", x.goes(0, 15, 1), STUCK);
        due("60 of more", with(CHAIN, 8, 0).goes(0, 128, 60), 60);

        part(48);
        x = with(PAIR, 3, 7);
        int seed = 1;
        int on = 7;
        for (int k = 0; k < 60; k++) {
            int legal = x.moves(0);
            seed = seed * 1103515245 + 12345;
            int drawn = (seed >>> 16) % Integer.bitCount(legal);
            for (int past = 0; past < drawn; past++) {
                legal &= legal - 1;
            }
            int move = Integer.numberOfTrailingZeros(legal);
            on ^= move == 20 ? 3 : 1 << move;
            due("one", x.play(0, 1), 1);
            due("on", x.barOf(0, 2), on);
            due("seed", x.status(6), seed);
        }
        RingsOff again = with(PAIR, 3, 7);
        due("all at once", again.play(0, 60), 60);
        due("on", again.barOf(0, 2), on);
        due("moved", again.status(3), 60);
        due("n below", x.play(0, 0), BAD);
        due("n above", x.play(0, 61), BAD);
        due("no bar", x.play(1, 1), BAD);
        RingsOff trap = new RingsOff();
        due("told", read(trap, "bar 5 3;table 0 0 1 0;table 0 1 2 1;table 0 2 4 3"), 4);
        due("while one may be", trap.play(0, 60), 3);
        int behind = 1;
        for (int k = 0; k < 3; k++) {
            behind = behind * 1103515245 + 12345;
        }
        due("one draw a move, if one alone may be, too", trap.status(6), behind);
        due("none", trap.play(0, 1), 0);
        due("no draw", trap.status(6), behind);

        part(49);
        x = new RingsOff();
        due("none", x.drop(), STUCK);
        due("bars", read(x, "bar 0 1;bar 1 2;bar 5 3"), 3);
        due("show", x.show(0, 2), 1);
        due("show", x.show(1, 1), 1);
        due("show", x.show(2, 2), 1);
        withRow(x, 3, 4, 1);
        due("drop", x.drop(), 2);
        due("held it", x.holds(0), NONE);
        due("another", x.holds(1), 11);
        due("held it", x.holds(2), NONE);
        due("a row", x.holds(3), 4);
        due("gone", x.barOf(2, 0), BAD);
        due("bar", x.bar(BAR, 1), 2);
        due("not held again", x.holds(0), NONE);
        due("drop", x.drop(), 2);
        due("drop", x.drop(), 1);
        due("drop", x.drop(), 0);
        due("none", x.drop(), STUCK);

        part(50);
        due("seed", x.seed(-2), 1);
        due("seed", x.seed(Integer.MIN_VALUE), -2);
        due("seed", x.seed(0), Integer.MIN_VALUE);
        due("not refused", x.status(12), 1);
    }

    private static void imagesAndStatus() {
        part(51);
        RingsOff x = new RingsOff();
        due("bars", read(x, "bar 0 4 on 5;bar 5 3 on 2;stuck 1 4;table 1 0 1 2;minutes 3 33;move 0 1"), 6);
        due("seed", x.seed(77), 1);
        due("show", x.show(0, 1), 1);
        due("no image", x.back(), STUCK);
        due("image", x.image(), 1);
        due("change", read(x, "bar 1 3;stuck 1 0;table 1 0 0 0;minutes 3 1;move 0 0;bar 2 2"), 6);
        due("put", x.put(1, 0), 2);
        due("seed", x.seed(5), 77);
        due("show", x.show(1, 2), 1);
        due("show", x.show(2, 0), 1);
        withRow(x, 3, 0, 9);
        due("feed", x.feed('b'), 1);
        int bad = x.status(12);

        part(52);
        due("back", x.back(), 1);
        due("bars", x.status(0), 2);
        due("on", x.barOf(0, 2), 7);
        due("on", x.barOf(1, 2), 2);
        due("kind", x.barOf(1, 0), TOLD);
        due("stuck", x.barOf(1, 3), 4);
        due("must", x.barOf(1, 10), 1);
        due("not", x.barOf(1, 20), 2);
        due("minutes", x.status(4), 42);
        due("moved", x.status(3), 1);
        due("seed", x.status(6), 77);
        due("of the same number", x.holds(0), 11);
        due("or nothing", x.holds(1), NONE);
        due("of the same number", x.holds(2), 10);
        due("a row stays", x.element(3, 0), 9);
        due("the tape stays", x.status(5), 1);
        due("refusals stay", x.status(12), bad);
        due("refusals stay", x.status(15), 1);
        due("drop", x.drop(), 1);
        due("back again", x.back(), 1);
        due("as it was kept", x.barOf(1, 10), 1);
        due("what was dropped is nothing", x.holds(0), NONE);

        part(53);
        x = new RingsOff();
        due("bars", read(x, "bar 0 4 on 5;bar 1 3;stuck 0 7;stuck 1 1;minutes 0 99;move 0 3"), 6);
        due("show", x.show(0, 0), 1);
        withRow(x, 1, 2);
        due("feed", x.feed(0), 1);
        due("feed", x.feed(0), 2);
        x.feed(-1);
        x.feed(-1);
        x.set(0, 0, 0);
        x.set(2, 0, 0);
        x.set(2, 0, 0);
        x.set(2, 0, 0);
        x.back();
        x.bar(0, 1);
        x.bar(0, 1);
        x.bar(0, 1);
        x.bar(0, 1);
        int[][] whats = {{0, 4}, {1, 8}, {2, 4}, {3, 1}, {4, 108}, {5, 2}, {6, 1}, {7, 2}, {12, 2}, {13, 1}, {14, 3},
            {15, 1}, {16, 2}, {8, NONE}, {9, NONE}, {11, NONE}, {17, NONE}, {-1, NONE},
            {Integer.MAX_VALUE, NONE}, {Integer.MIN_VALUE, NONE}};
        for (int[] what : whats) {
            due("status " + what[0], x.status(what[0]), what[1]);
        }
        due("not refused", x.status(12), 2);
    }
}
