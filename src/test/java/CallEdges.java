/** The edges of what each call answers and does, promise by promise; its refusals are in RefusalEdges. */
final class CallEdges extends Edges {
    private static final String OFF_ALONE = "bar 5 3;table 0 0 1 0;table 0 1 2 0;table 0 2 4 0";

    CallEdges(Checks checks, Sentences sentences) {
        super(checks, sentences);
    }

    void all() {
        rowsOnShelves();
        copies();
        barsOnShelves();
        sayings();
        barsAsTheyAre();
        tapes();
        movesNow();
        ways();
        places();
        reaches();
        linesAndLuck();
        minutesAndBells();
        reachesOfRings();
        chances();
        pictures();
        rowsOfMoves();
        games();
        movesInTruth();
        drops();
        images();
        statuses();
    }

    private void rowsOnShelves() {
        promise(1);
        says("No BARS; SHELVES hold NOTHING; THE TAPE is empty.");
        RingsOff x = new RingsOff();
        for (int what = 0; what <= 16; what++) {
            long want = what == 4 ? 10 : what == 6 ? 1 : what > 7 && what < 12 ? NONE : 0;
            due("status " + what, x.status(what), want);
        }
        for (int s = 0; s < 8; s++) {
            due("shelf " + s, x.holds(s), NONE);
        }
        due("no bar", x.moves(0), BAD);
        due("no tape", x.wipe(), 0);
        due("no image", x.back(), STUCK);

        promise(2);
        says("SHELF s holds a new ROW: 1.");
        x = with(BAR, 1, 1);
        due("on the first shelf, the shortest", x.row(0, 0, 0), 1);
        due("on the last shelf, the longest", x.row(7, 4, 40), 1);
        due("held", x.holds(0), 0);
        due("held", x.holds(7), 4);
        x.show(3, 0);
        due("in place of a bar", x.row(3, 2, 1), 1);
        due("held", x.holds(3), 2);
        row(x, 4, 3, 9, 9);
        due("in place of a row", x.row(4, 3, 2), 1);
        due("a new one", x.element(4, 0) + x.element(4, 1), 0);
        due("of no more elements", x.set(4, 2, 1), BAD);

        promise(3);
        says("Element i of the ROW in SHELF s becomes v: 1.");
        x.row(0, 3, 40);
        for (int i = 0; i < 40; i += 39) {
            due("an end", x.set(0, i, Long.MIN_VALUE + i), 1);
            due("becomes so", x.element(0, i), Long.MIN_VALUE + i);
        }
        due("no other", x.element(0, 1) + x.element(0, 38), 0);
        due("no other shelf's", x.element(1, 0) + x.element(4, 0), 0);

        promise(5);
        says("Element i of the ROW; 0: none, no ROW (nothing is refused).");
        x = row(with(BAR, 1, 1), 7, 1, 5, 6);
        x.show(1, 0);
        int[][] elements = {{7, 0, 5}, {7, 1, 6}, {7, 2, 0}, {7, -1, 0}, {7, 40, 0}, {7, Integer.MAX_VALUE, 0},
            {7, Integer.MIN_VALUE, 0}, {0, 0, 0}, {1, 0, 0}, {8, 0, 0}, {-1, 0, 0}, {6, 41, 0}, {8, -40, 0},
            {Integer.MAX_VALUE, 0, 0}, {Integer.MIN_VALUE, 0, 0}};
        for (int[] element : elements) {
            due("element " + element[0] + " " + element[1], x.element(element[0], element[1]), element[2]);
        }
        due("nothing is refused", x.status(12) + x.status(13) + x.status(14) + x.status(15), 0);
    }

    private void copies() {
        promise(4);
        says("n elements of the ROW in SHELF p from place i on come to places j on of that in q (as they were): n.");
        RingsOff x = row(new RingsOff(), 6, 3, 10, 11, 12, 13, 14);
        row(x, 7, 3, 20, 21, 22);
        due("some", x.copy(6, 7, 2, 1, 2), 2);
        elements(x, 7, 20, 12, 13);
        due("all that there is room for", x.copy(6, 7, 0, 0, 3), 3);
        elements(x, 7, 10, 11, 12);
        due("none", x.copy(6, 7, 0, 0, 0), 0);
        due("none, behind both", x.copy(6, 7, 5, 3, 0), 0);
        elements(x, 7, 10, 11, 12);
        due("onward in one row", x.copy(6, 6, 0, 1, 4), 4);
        elements(x, 6, 10, 10, 11, 12, 13);
        due("back in one row", x.copy(6, 6, 1, 0, 4), 4);
        elements(x, 6, 10, 11, 12, 13, 13);
        due("in its place", x.copy(6, 6, 0, 0, 5), 5);
        elements(x, 6, 10, 11, 12, 13, 13);
        x.row(0, 0, 40);
        x.row(1, 0, 40);
        x.set(0, 0, 1);
        x.set(0, 39, 2);
        due("40", x.copy(0, 1, 0, 0, 40), 40);
        due("the first of 40", x.element(1, 0), 1);
        due("the last of 40", x.element(1, 39), 2);
        due("the last alone", x.copy(0, 1, 39, 0, 1), 1);
        due("to the first place", x.element(1, 0), 2);
    }

    private void elements(RingsOff x, int s, long... want) {
        for (int i = 0; i < want.length; i++) {
            due("element " + i, x.element(s, i), want[i]);
        }
    }

    private void barsOnShelves() {
        promise(6);
        says("What SHELF s holds: NONE NOTHING, no SHELF; 0 to 4 a ROW by its SORT; 10 and the number of a BAR.");
        RingsOff x = told("bar 0 1;bar 0 1;bar 0 1;bar 0 1");
        for (int sort = 0; sort <= 4; sort++) {
            x.row(sort, sort, 0);
            due("a row", x.holds(sort), sort);
        }
        for (int bar = 0; bar < 4; bar++) {
            x.show(bar + 3, bar);
            due("a bar", x.holds(bar + 3), 10 + bar);
        }
        for (int s : new int[] {7, 8, -1, Integer.MAX_VALUE, Integer.MIN_VALUE}) {
            due("nothing, no shelf", x.holds(s), NONE);
        }
        due("not refused", x.status(12) + x.status(14), 0);

        promise(7);
        says("SHELF s holds a BAR, or NOTHING (bar NONE): 1.");
        x = told("bar 0 1;bar 0 1;bar 0 1;bar 1 2");
        due("the last bar on the last shelf", x.show(7, 3), 1);
        due("held", x.holds(7), 13);
        due("one bar on two shelves", x.show(0, 3), 1);
        due("held", x.holds(0), 13);
        due("another bar", x.show(7, 0), 1);
        due("held", x.holds(7), 10);
        due("nothing", x.show(7, NONE), 1);
        due("held", x.holds(7), NONE);
        due("nothing again", x.show(7, NONE), 1);
        due("nothing in place of a row", row(x, 6, 0, 1).show(6, NONE), 1);
        due("held", x.holds(6), NONE);
        due("a bar in place of a row", row(x, 6, 0, 1).show(6, 1), 1);
        due("held", x.holds(6), 11);
        due("the bar itself, as it is then", x.put(3, 0), 3);
        due("says so", x.says(0, BAR), 0);
        due("with no bars, nothing", new RingsOff().show(0, NONE), 1);
    }

    /** What a bar on a shelf says, taken for one of a kind. */
    private static int said(RingsOff x, int kind) {
        x.show(7, 0);
        return x.says(7, kind);
    }

    private void sayings() {
        promise(8);
        says("What the BAR in SHELF s, taken for one of a KIND, says: BAR how many rings are ON;");
        for (int kind = 0; kind < 6; kind++) {
            due("none", said(with(kind, 10, 0), BAR), 0);
            due("all", said(with(kind, 10, 1023), BAR), 10);
        }
        says("CHAIN its PLACE as a CHAIN (AFTER: rings counted from the other end);");
        for (int kind : new int[] {CHAIN, PAIR}) {
            due("none", said(with(kind, 10, 0), CHAIN), 0);
            due("ring 0", said(with(kind, 10, 1), CHAIN), 1);
            due("ring 9", said(with(kind, 10, 512), CHAIN), 1023);
            due("all", said(with(kind, 10, 1023), CHAIN), 682);
        }
        due("none", said(with(AFTER, 10, 0), CHAIN), 0);
        due("ring 0 of ten", said(with(AFTER, 10, 1), CHAIN), 1023);
        due("ring 9 of ten", said(with(AFTER, 10, 512), CHAIN), 1);
        due("ring 1 of three", said(with(AFTER, 3, 2), CHAIN), 3);
        due("of one", said(with(AFTER, 1, 1), CHAIN), 1);
        due("the place, whatever is stuck", said(stuck(CHAIN, 3, 4, 7), CHAIN), 7);
        says("PAIR FEWEST to all off (NONE: never);");
        due("there", said(with(PAIR, 3, 0), PAIR), 0);
        due("both at once", said(with(PAIR, 3, 3), PAIR), 1);
        due("all of ten", said(with(PAIR, 10, 1023), PAIR), 511);
        due("never", said(stuck(PAIR, 3, 4, 4), PAIR), NONE);
        says("TWO how many MOVES MAY be;");
        due("from both ends, the same", said(with(TWO, 1, 1), TWO), 1);
        due("four", said(with(TWO, 4, 6), TWO), 4);
        due("none", said(stuck(TWO, 4, 6, 15), TWO), 0);
        says("AFTER the last ring that is ON (NONE);");
        due("none", said(with(AFTER, 10, 0), AFTER), NONE);
        due("ring 0", said(with(AFTER, 10, 1), AFTER), 0);
        due("ring 9", said(with(AFTER, 10, 512), AFTER), 9);
        due("ring 8 of some", said(with(AFTER, 10, 257), AFTER), 8);
        says("TOLD how many rings have a MUST or a NOT.");
        due("none", said(with(TOLD, 10, 1023), TOLD), 0);
        due("by a must, by a not, by both, by none",
                said(told("bar 5 10;table 0 0 512 0;table 0 9 0 1;table 0 4 1 1;table 0 5 0 0"), TOLD), 3);
        RingsOff x = with(TOLD, 10, 0);
        for (int ring = 0; ring < 10; ring++) {
            x.table(0, ring, 0, 512);
        }
        due("all", said(x, TOLD), 10);
    }

    private void barsAsTheyAre() {
        promise(9);
        says("A BAR: its number.");
        RingsOff x = new RingsOff();
        int[][] bars = {{0, 1}, {5, 10}, {2, 1}, {4, 10}};
        for (int bar = 0; bar < 4; bar++) {
            due("bar", x.bar(bars[bar][0], bars[bar][1]), bar);
            due("kind", x.barOf(bar, 0), bars[bar][0]);
            due("size", x.barOf(bar, 1), bars[bar][1]);
        }

        promise(10);
        says("Rings of a BAR that are ON become a set: what they were.");
        due("none", x.put(3, 0), 1023);
        due("all", x.put(3, 1023), 0);
        due("as they are", x.put(3, 1023), 1023);
        due("whatever is stuck", stuck(BAR, 3, 5, 7).put(0, 2), 5);
        due("of no other bar", x.barOf(1, 2), 1023);
        due("no move", x.status(3), 0);

        promise(11);
        says("STUCK of a BAR becomes a set: what it was.");
        due("all", x.stick(3, 1023), 0);
        due("none", x.stick(3, 0), 1023);
        due("not one more", x.stick(3, 512), 0);
        due("but the set", x.stick(3, 1), 512);
        due("of no other bar", x.barOf(1, 3), 0);
        due("on as it was", x.barOf(3, 2), 1023);

        promise(12);
        says("MUST and NOT of a ring of a TOLD BAR become sets: 1.");
        due("all", x.table(1, 9, 1023, 1023), 1);
        due("must", x.barOf(1, 19), 1023);
        due("not", x.barOf(1, 29), 1023);
        due("none", x.table(1, 9, 0, 0), 1);
        due("must", x.barOf(1, 19), 0);
        due("not", x.barOf(1, 29), 0);
        due("of one ring", x.table(1, 0, 1, 2), 1);
        due("of no other", x.barOf(1, 11) + x.barOf(1, 21) + x.barOf(1, 19) + x.barOf(1, 29), 0);

        promise(13);
        says("MINUTES of a ring (0 to 9) become v: what they were.");
        due("ring 0, the most", x.minutes(0, 99), 1);
        due("the least", x.minutes(0, 0), 99);
        due("ring 9, though no bar has it", new RingsOff().minutes(9, 50), 1);
        due("of no other", x.status(4), 9);

        promise(17);
        says("Of a BAR: KIND (0), SIZE (1), ON (2, bits), STUCK (3, bits), 10 and a ring: MUST, 20 and a ring: NOT "
                + "(of one that isn't TOLD 0).");
        x = told("bar 0 1;bar 5 10 on 513;stuck 1 770;table 1 0 3 4;table 1 9 5 6");
        int[][] whats = {{0, 5}, {1, 10}, {2, 513}, {3, 770}, {10, 3}, {19, 5}, {20, 4}, {29, 6}, {11, 0}, {28, 0}};
        for (int[] what : whats) {
            due("what " + what[0], x.barOf(1, what[0]), what[1]);
        }
        for (int kind = 0; kind < 5; kind++) {
            RingsOff y = with(kind, 10, 0);
            due("no must, no not", y.barOf(0, 10) + y.barOf(0, 19) + y.barOf(0, 20) + y.barOf(0, 29), 0);
        }
        x = told("bar 5 2;table 0 1 3 3");
        x.drop();
        x.bar(CHAIN, 2);
        due("nor of one that was told", x.barOf(0, 11) + x.barOf(0, 21), 0);
    }

    private void tapes() {
        promise(14);
        says("THE TAPE gets one byte (0 to 255) behind it: its size.");
        RingsOff x = new RingsOff();
        due("the least", x.feed(0), 1);
        due("the most", x.feed(255), 2);
        for (int i = 3; i <= 250; i++) {
            due("the size", x.feed(' '), i);
        }
        due("empty again", x.wipe(), 250);
        due("the first again", x.feed('b'), 1);

        promise(15);
        says("THE TAPE is empty: its size ahead.");
        x = new RingsOff();
        x.feed('b');
        due("one", x.wipe(), 1);
        due("none", x.wipe(), 0);
        due("nothing of what was wiped", read(x, "bar 0 1"), 1);
        due("none behind bars()", x.wipe(), 0);

        promise(16);
        says("THE TAPE is a SET of BARS: how many STATEMENTS;");
        due("one", told("bar 0 1").status(0), 1);
        due("one of no bar", read(x, "minutes 0 1"), 1);
        due("many", read(x, "stuck0 0;".repeat(26) + "stuck0 0"), 27);
        says("-20 less the FAULT (that is refused, too: BAD).");
        x = new RingsOff();
        due("the least fault", read(x, "x"), -20);
        due("the greatest fault", read(x, "bar 0 1;" + " ".repeat(242)), -270);
        due("refused", x.status(12), 2);
        due("of none else", x.status(13) + x.status(14) + x.status(15) + x.status(16), 0);
        says("THE TAPE is empty then, either way.");
        x = new RingsOff();
        due("right", read(x, "bar 0 1"), 1);
        due("empty", x.status(5), 0);
        due("nothing to read", x.bars(), -20);
        due("wrong", read(x, "bar 0 1;?"), -28);
        due("empty", x.status(5), 0);
        due("as if none had been", read(x, "bar 0 1"), 1);
    }

    private void movesNow() {
        promise(18);
        says("Whether a MOVE MAY be: 1, 0.");
        RingsOff x = with(CHAIN, 10, 256);
        for (int ring = 0; ring < 10; ring++) {
            due("ring " + ring, x.may(0, ring), ring == 0 || ring == 9 ? 1 : 0);
        }
        due("20 of both on", with(PAIR, 10, 3).may(0, BOTH), 1);
        due("20 of one on", with(PAIR, 10, 1).may(0, BOTH), 0);

        promise(19);
        says("MOVES that MAY be (bits; 20: bit 20).");
        due("none", stuck(PAIR, 10, 0, 1023).moves(0), 0);
        due("all", with(BAR, 10, 0).moves(0), 1023);
        due("20", with(PAIR, 10, 0).moves(0), 1 + (1 << BOTH));

        promise(20);
        says("A MOVE in truth: rings that are ON then.");
        x = with(BAR, 10, 1023);
        due("the last ring", x.move(0, 9), 511);
        due("again", x.move(0, 9), 1023);
        due("in truth", x.barOf(0, 2), 1023);
        due("two", x.status(3), 2);
        due("none on then", with(PAIR, 2, 3).move(0, BOTH), 0);
    }

    private void ways() {
        promise(21);
        says("FEWEST from how it is to a SET; NONE.");
        RingsOff x = told(OFF_ALONE);
        due("as it is", x.fewest(0, 7), 0);
        due("all off", x.fewest(0, 0), 3);
        x.put(0, 3);
        due("from how it is now", x.fewest(0, 0), 2);
        due("never", x.fewest(0, 7), NONE);

        promise(22);
        says("The i-th MOVE of THE WAY to a SET.");
        x = with(CHAIN, 10, 512);
        due("the first", x.way(0, 0, 0), 0);
        due("the second", x.way(0, 0, 1), 1);
        due("the last", x.way(0, 0, 1022), 0);
        due("the one in the middle", x.way(0, 0, 511), 9);
        due("20", with(PAIR, 3, 3).way(0, 0, 0), BOTH);

        promise(23);
        says("FEWEST from a SET to another; NONE.");
        x = told(OFF_ALONE.replace("bar 5 3", "bar 5 3 on 2"));
        due("to itself", x.between(0, 7, 7), 0);
        due("however it is", x.between(0, 7, 0), 3);
        due("never", x.between(0, 0, 7), NONE);
        due("of ten", with(CHAIN, 10, 0).between(0, 512, 0), 1023);
        due("the other way", with(CHAIN, 10, 0).between(0, 0, 512), 1023);
    }

    private void places() {
        promise(24);
        says("PLACE of a SET of 60 rings at most.");
        RingsOff x = new RingsOff();
        long most = (1L << 60) - 1;
        due("none", x.place(0), 0);
        due("all 60", x.place(most), 768614336404564650L);
        due("the last alone", x.place(1L << 59), most);
        due("31 rings", x.place(1L << 30), (1L << 31) - 1);
        due("32 rings", x.place(1L << 31), (1L << 32) - 1);
        due("33 rings", x.place(1L << 32), (1L << 33) - 1);

        promise(25);
        says("SET of a PLACE.");
        due("none", x.setOf(0), 0);
        due("the last", x.setOf(most), 1L << 59);
        due("the last but one", x.setOf(most - 1), (1L << 59) + 1);
        due("the middle", x.setOf(768614336404564650L), most);
        for (int ring = 0; ring < 60; ring++) {
            due("one ring on, and back", x.setOf(x.place(1L << ring)), 1L << ring);
        }
    }

    private void reaches() {
        promise(26);
        says("REACH.");
        due("one", stuck(BAR, 1, 1, 1).reach(0), 1);
        due("two", with(BAR, 1, 1).reach(0), 2);
        due("all", with(TWO, 10, 1).reach(0), 1024);

        promise(27);
        says("FARTHEST: the SET (what 0), FEWEST to it (1).");
        RingsOff x = with(CHAIN, 10, 512);
        due("the set", x.farthest(0, 0), 0);
        due("fewest", x.farthest(0, 1), 1023);
        x = stuck(BAR, 1, 1, 1);
        due("the set it is", x.farthest(0, 0), 1);
        due("none", x.farthest(0, 1), 0);

        promise(28);
        says("SHAPE.");
        due("one set", x.shape(0), 0);
        due("of ten", with(BAR, 10, 0).shape(0), 2);

        promise(29);
        says("PARTS.");
        due("two", x.parts(0), 2);
        due("of ten", stuck(BAR, 10, 0, 341).parts(0), 32);

        promise(30);
        says("LONGEST.");
        due("none", x.longest(0), 0);
        due("of six", with(BAR, 6, 0).longest(0), 6);

        promise(31);
        says("SAVE.");
        due("of one", new RingsOff().save(1), 0);
        due("of two", new RingsOff().save(2), 1);
        due("of ten", new RingsOff().save(10), 171);
        x = stuck(PAIR, 2, 1, 3);
        due("none may be here", x.moves(0), 0);
        due("whatever is stuck", x.save(2), 1);

        promise(32);
        says("LUCK.");
        due("all off", with(CHAIN, 1, 0).luck(0), 0);
        due("of ten", with(CHAIN, 10, 512).luck(0), 1046529);
        x = with(CHAIN, 2, 1);
        x.stick(0, 3);
        x.stick(0, 0);
        due("nothing stuck any more", x.luck(0), 5);
    }

    private void linesAndLuck() {
        promise(35);
        says("The least SIZE (1 to 10) of a CHAIN of which THE WAY from all ON to all off takes m MINUTES (0 to 99999) "
                + "at least; NONE.");
        RingsOff x = new RingsOff();
        int[] fewest = {1, 2, 5, 10, 21, 42, 85, 170, 341, 682};
        for (int size = 1; size <= 10; size++) {
            due("just so many", x.lock(fewest[size - 1]), size);
            due("one more", x.lock(fewest[size - 1] + 1), size == 10 ? NONE : size + 1);
        }
        due("none", x.lock(0), 1);
        due("the most", x.lock(99999), NONE);
        for (int ring = 0; ring < 10; ring++) {
            x.minutes(ring, 99);
        }
        due("of size 10 at most", x.lock(99 * 682), 10);
        due("more than that", x.lock(99 * 682 + 1), NONE);
        for (int ring = 0; ring < 10; ring++) {
            x.minutes(ring, 0);
        }
        due("no minutes, none wanted", x.lock(0), 1);
        due("no minutes, one wanted", x.lock(1), NONE);
        x.minutes(9, 1);
        due("by ring 9 alone", x.lock(1), 10);
    }

    private void minutesAndBells() {
        promise(33);
        says("TIME; NONE: there is no WAY.");
        RingsOff x = with(CHAIN, 10, 512);
        for (int ring = 0; ring < 10; ring++) {
            x.minutes(ring, 99);
        }
        due("there", x.time(0, 512), 0);
        due("the whole line", x.time(0, 0), 99 * 1023);
        x.stick(0, 512);
        due("no way", x.time(0, 0), NONE);
        due("a way to another", x.time(0, 513), 99);

        promise(34);
        says("BELL; NONE: it doesn't move so often, or there is no WAY.");
        x = with(CHAIN, 10, 512);
        due("ring 9, once", x.bell(0, 9, 1), 512);
        due("not twice", x.bell(0, 9, 2), NONE);
        due("ring 0, 512 times", x.bell(0, 0, 512), 1023);
        due("not 513 times", x.bell(0, 0, 513), NONE);
        x.minutes(0, 0);
        due("by minute 0", x.bell(0, 0, 1), 0);
        x.put(0, 0);
        due("there already", x.bell(0, 0, 1), NONE);
        due("no way", stuck(CHAIN, 3, 4, 4).bell(0, 0, 1), NONE);
        due("it never moves", with(BAR, 3, 3).bell(0, 2, 1), NONE);
    }

    private void reachesOfRings() {
        promise(36);
        says("Rings (bits) that MAY be moved in some SET of REACH.");
        due("all", with(CHAIN, 10, 0).movable(0), 1023);
        due("none", stuck(CHAIN, 10, 0, 1023).movable(0), 0);
        due("below the stuck", stuck(CHAIN, 10, 0, 8).movable(0), 7);
        due("both by 20", with(PAIR, 2, 0).movable(0), 3);
        due("at first alone", told("bar 5 2;table 0 0 3 0;table 0 1 0 3").movable(0), 1);
        due("one, but not the other", told("bar 5 2;table 0 0 2 1;table 0 1 2 0").movable(0), 2);

        promise(37);
        says("How many SETS of REACH there are in which just one MOVE MAY be.");
        due("two ends", with(CHAIN, 10, 0).ends(0), 2);
        due("20 is one, too", with(PAIR, 2, 3).ends(0), 1);
        due("none may be", stuck(CHAIN, 10, 0, 1023).ends(0), 0);
        due("two may be", with(BAR, 2, 0).ends(0), 0);
        due("the way off", told("bar 5 3;table 0 0 1 0;table 0 1 2 1;table 0 2 4 3").ends(0), 3);
        due("one on the way, none at its ends", told("bar 5 2;table 0 0 1 0;table 0 1 3 0").ends(0), 1);

        promise(38);
        says("FEWEST MOVES till a ring has been moved (that one, too); NONE.");
        due("at once", with(CHAIN, 10, 0).first(0, 0), 1);
        due("ring 9 from all off", with(CHAIN, 10, 0).first(0, 9), 512);
        due("20 moves ring 1", with(PAIR, 2, 3).first(0, 1), 1);
        due("20 alone moves ring 1", with(PAIR, 2, 0).first(0, 1), 1);
        due("without it ring 0 is ahead", with(CHAIN, 2, 0).first(0, 1), 2);
        due("20 isn't ring 2", with(PAIR, 3, 0).first(0, 2), 3);
        due("stuck", stuck(BAR, 10, 0, 512).first(0, 9), NONE);
        due("never", stuck(CHAIN, 10, 0, 1).first(0, 9), NONE);
    }

    private void chances() {
        promise(39);
        says("The chance, of 1,000,000, that a BAR is at a SET behind m MOVES (0 to 20),");
        RingsOff x = with(BAR, 1, 1);
        for (int m = 0; m <= 20; m++) {
            due("to and fro " + m, x.chance(0, 1, m), m % 2 == 0 ? 1000000 : 0);
            due("fro and to " + m, x.chance(0, 0, m), m % 2 == 0 ? 0 : 1000000);
        }
        says("each by even chances one of those that MAY be (of how many there are at a SET each MOVE has an even part, "
                + "cut;");
        due("a third, cut", with(BAR, 3, 0).chance(0, 4, 1), 333333);
        due("a third of thirds, cut, of both", with(BAR, 3, 0).chance(0, 3, 2), 222222);
        due("a seventh, cut", with(BAR, 7, 0).chance(0, 64, 1), 142857);
        due("20 is one", with(PAIR, 3, 7).chance(0, 4, 1), 333333);
        due("a tenth each", with(BAR, 10, 0).chance(0, 512, 1), 100000);
        due("at the end of a line all goes on", with(CHAIN, 2, 0).chance(0, 1, 1), 1000000);
        due("halved 19 times, cut to 1", with(CHAIN, 5, 0).chance(0, 30, 20), 1);
        due("halved 20 times, cut to none", with(CHAIN, 5, 1).chance(0, 31, 20), 0);
        due("a 1 goes on whole from the line's end", with(CHAIN, 5, 10).chance(0, 17, 20), 17 + 1);
        says("none MAY be: it stays).");
        due("stays", stuck(BAR, 10, 9, 1023).chance(0, 9, 20), 1000000);
        due("is nowhere else", stuck(BAR, 10, 9, 1023).chance(0, 8, 20), 0);
        x = told("bar 5 2;table 0 0 3 0;table 0 1 3 0");
        due("stays where it came to", x.chance(0, 2, 20), 500000);
        due("of three, cut once alone", told("bar 5 3 on 0;table 0 0 0 7;table 0 1 0 7;table 0 2 0 7")
                .chance(0, 4, 20), 333333);
    }

    private void pictures() {
        promise(40);
        says("PICTURES by the first n elements (1 to 10) of the ROW in SHELF s: all FEWEST together "
                + "(NONE: one is BROKEN).");
        RingsOff x = row(told(OFF_ALONE), 7, 0, 7, 6, 6, 4, 0, 0, 0, 0, 0, 0, 9, 9);
        due("one", x.pictures(7, 1, 0), 0);
        due("five", x.pictures(7, 5, 0), 3);
        due("ten, whatever is behind them", x.pictures(7, 10, 0), 3);
        x.set(7, 9, 1);
        due("the tenth is broken", x.pictures(7, 10, 0), NONE);
        due("none of the first nine", x.pictures(7, 9, 0), 3);
        x.put(0, 3);
        due("the first is broken", x.pictures(7, 1, 0), NONE);

        promise(41);
        says("BROKEN; NONE.");
        due("the first", x.broken(7, 10, 0), 0);
        x.put(0, 7);
        due("the tenth", x.broken(7, 10, 0), 9);
        due("none", x.broken(7, 9, 0), NONE);

        promise(42);
        says("ONCE; NONE: no ring would do.");
        due("ring 0", x.once(7, 10, 0), 0);
        x.set(7, 9, 3);
        due("no ring", x.once(7, 10, 0), NONE);
        due("the last ring", row(stuck(BAR, 10, 0, 1023), 0, 3, 512).once(0, 1, 0), 9);
        due("nothing is moved", x.barOf(0, 2), 7);
    }

    private void rowsOfMoves() {
        promise(43);
        says("JUDGED by the first n elements (0 to 40); NONE.");
        RingsOff x = with(BAR, 10, 0);
        x.row(0, 1, 40);
        due("none of none", x.judge(0, 0, 0), NONE);
        due("none of 40", x.judge(0, 40, 0), NONE);
        x.set(0, 39, 10);
        due("the last of 40", x.judge(0, 40, 0), 39);
        due("none ahead of it", x.judge(0, 39, 0), NONE);
        for (long v : new long[] {-1, 10, 19, 20, 21, 1L << 32, 1L << 20, Long.MIN_VALUE, Long.MAX_VALUE, -64}) {
            due("no move: " + v, row(x, 1, 3, v).judge(1, 1, 0), 0);
        }
        due("a row of none", row(x, 1, 0).judge(1, 0, 0), NONE);
        due("moved then, so it may be", row(with(CHAIN, 3, 0), 1, 0, 0, 1).judge(1, 2, 0), NONE);
        due("both at once", row(with(PAIR, 2, 0), 1, 0, 20, 20).judge(1, 2, 0), NONE);
        due("both at once of a chain", row(with(CHAIN, 2, 0), 1, 0, 20).judge(1, 1, 0), 0);

        promise(44);
        says("Behind them: rings that are ON.");
        x = row(with(PAIR, 3, 7), 0, 3, 20, 0, 1, 0, 2);
        int[] on = {7, 4, 5, 7, 6};
        for (int n = 0; n < on.length; n++) {
            due("behind " + n, x.behind(0, n, 0), on[n]);
        }
        due("in thought", x.barOf(0, 2), 7);
        due("none moved", x.status(3), 0);

        promise(45);
        says("They are made in truth: rings that are ON.");
        due("none", x.moved(0, 0, 0), 7);
        due("none moved", x.status(3), 0);
        due("four", x.moved(0, 4, 0), 6);
        due("in truth", x.barOf(0, 2), 6);
        due("each counts", x.status(3), 4);
        x = with(BAR, 1, 0);
        x.row(0, 4, 40);
        due("40", x.moved(0, 40, 0), 0);
        due("each of 40 counts", x.status(3), 40);
    }

    private void games() {
        promise(46);
        says("GAME: 1, 0 (what 0), the MOVE that wins (1; NONE).");
        due("won", with(BAR, 3, 7).game(0, 0), 1);
        due("by ring 0", with(BAR, 3, 7).game(0, 1), 0);
        due("lost", stuck(BAR, 3, 7, 7).game(0, 0), 0);
        due("by none", stuck(BAR, 3, 7, 7).game(0, 1), NONE);
        due("by ring 2", stuck(BAR, 3, 7, 3).game(0, 1), 2);
        RingsOff x = with(PAIR, 3, 7);
        x.game(0, 1);
        due("nothing is moved", x.barOf(0, 2) + x.status(3), 7);
    }

    private void movesInTruth() {
        promise(47);
        says("n (1 to 60) MOVES of THE WAY to a SET in truth, until it is so: how many.");
        RingsOff x = with(CHAIN, 7, 64);
        due("one", x.goes(0, 0, 1), 1);
        due("on", x.barOf(0, 2), 65);
        due("60", x.goes(0, 0, 60), 60);
        due("on", x.place(x.barOf(0, 2)), 127 - 61);
        due("60 more", x.goes(0, 0, 60), 60);
        due("until it is so", x.goes(0, 0, 60), 6);
        due("on", x.barOf(0, 2), 0);
        due("it is so", x.goes(0, 0, 60), 0);
        due("each counts", x.status(3), 127);
        due("no draw", x.status(6), 1);
        due("just so many", with(CHAIN, 3, 4).goes(0, 0, 7), 7);

        promise(48);
        says("n (1 to 60) MOVES by DRAWS in truth, while one MAY be: how many.");
        x = with(BAR, 10, 0);
        due("one", x.play(0, 1), 1);
        due("60", x.play(0, 60), 60);
        due("each counts", x.status(3), 61);
        x = told("bar 5 3;table 0 0 1 0;table 0 1 2 1;table 0 2 4 3");
        due("while one may be", x.play(0, 60), 3);
        int seed = x.status(6);
        due("none may be", x.play(0, 60), 0);
        due("then no draw", x.status(6), seed);
        due("nor a move", x.status(3), 3);
        due("none from the first", stuck(BAR, 10, 0, 1023).play(0, 1), 0);
    }

    private void drops() {
        promise(49);
        says("The last BAR goes: how many are left (SHELVES that hold it hold NOTHING).");
        RingsOff x = told("bar 0 1;bar 1 2;bar 2 3;bar 5 10");
        for (int s = 0; s < 8; s++) {
            x.show(s, s % 4);
        }
        for (int left = 3; left >= 0; left--) {
            due("left", x.drop(), left);
            due("so many", x.status(0), left);
            due("it is gone", x.reach(left), BAD);
            for (int s = 0; s < 8; s++) {
                due("shelf " + s, x.holds(s), s % 4 < left ? 10 + s % 4 : NONE);
            }
        }
        x = row(told("bar 0 1;bar 0 2"), 0, 0, 3);
        x.drop();
        due("a row stays", x.holds(0), 0);
        due("the other bar stays", x.barOf(0, 1), 1);
        due("its number is given again", x.bar(CHAIN, 5), 1);

        promise(50);
        says("SEED becomes v: the one ahead.");
        int ahead = 1;
        for (int seed : new int[] {0, -1, Integer.MIN_VALUE, Integer.MAX_VALUE, -2, -6, 1}) {
            due("the one ahead", x.seed(seed), ahead);
            due("becomes", x.status(6), seed);
            ahead = seed;
        }
        due("nothing is refused", x.status(12) + x.status(16), 0);
    }

    private void images() {
        promise(51);
        says("All is kept, but THE TAPE, SHELVES and REFUSALS: 1.");
        due("of nothing", new RingsOff().image(), 1);
        RingsOff x = full();
        due("of all", x.image(), 1);
        RingsOff other = full();
        due("what was there is changed", read(x, "table 0 0 0 0;table 0 9 0 0;stuck 0 0;stuck 3 0;minutes 0 1;"
                + "minutes 9 1;move 3 0"), 7);
        x.put(0, 0);
        x.drop();
        x.drop();
        x.bar(AFTER, 3);
        x.seed(8);
        x.row(1, 4, 2);
        x.show(2, 2);
        x.show(3, 0);
        x.feed('x');
        x.set(7, 0, 0);
        due("back", x.back(), 1);
        for (int what = 0; what <= 6; what++) {
            due("status " + what, x.status(what), other.status(what) + (what == 5 ? 1 : 0));
        }
        for (int bar = 0; bar < 4; bar++) {
            sameBar(x, other, bar);
        }
        int[] minutes = {88, 1, 1, 1, 1, 1, 1, 1, 1, 99};
        for (int ring = 0; ring < 10; ring++) {
            due("minutes of ring " + ring, x.minutes(ring, 0), minutes[ring]);
        }
        due("the tape isn't kept", x.wipe(), 1);
        due("nor what a shelf held", x.holds(0), NONE);
        due("nor that one held nothing", x.holds(1), 4);
        due("nor refusals", x.status(14), 1);
        due("a second image in place of the first", x.image(), 1);
        x.drop();
        x.back();
        due("is the one that is kept", x.minutes(0, 0), 0);

        promise(52);
        says("All is again as it was kept (SHELVES with BARS hold those of the same numbers, or NOTHING): 1.");
        due("of the same number, though it is another", x.holds(2), 12);
        x = told("bar 0 1;bar 1 2");
        x.image();
        read(x, "bar 2 3;bar 5 4");
        for (int s = 0; s < 4; s++) {
            x.show(s, s);
        }
        row(x, 4, 0, 5);
        due("back", x.back(), 1);
        int[] held = {10, 11, NONE, NONE, 0, NONE};
        for (int s = 0; s < held.length; s++) {
            due("shelf " + s, x.holds(s), held[s]);
        }
        due("says of the one of the same number", x.says(1, CHAIN), 2);
        due("a row stays", x.element(4, 0), 5);
        x.drop();
        x.drop();
        due("again", x.back(), 1);
        due("as it was", x.status(0), 2);
        due("shelves stay as they are", x.holds(0), NONE);
        x = new RingsOff();
        x.image();
        x.bar(BAR, 1);
        x.show(0, 0);
        due("back to nothing", x.back(), 1);
        due("no bar", x.status(0), 0);
        due("nothing held", x.holds(0), NONE);
    }

    /** Four bars with all that an image keeps, and the last of them on a shelf. */
    private RingsOff full() {
        RingsOff x = told("bar 5 10 on 513;table 0 0 1 2;table 0 9 512 1023;stuck 0 3;minutes 0 88;minutes 9 99");
        due("more", read(x, "bar 1 3;bar 2 2 on 0;bar 0 10;stuck 3 512;move 3 0;move 2 20;move 1 0"), 7);
        x.seed(-77);
        x.show(0, 3);
        return x;
    }

    private void sameBar(RingsOff x, RingsOff other, int bar) {
        for (int what = 0; what < 30; what++) {
            due("bar " + bar + " what " + what, x.barOf(bar, what), other.barOf(bar, what));
        }
    }

    private void statuses() {
        promise(53);
        says("BARS (0), rings ON of all (1), STUCK ones of all (2), MOVED (3), MINUTES of rings 0 to 9 together (4), "
                + "THE TAPE's size (5), SEED (6), SHELVES that hold something (7);");
        RingsOff x = told("bar 0 10;bar 0 10;bar 0 10;bar 0 10;stuck 0 1023;stuck 1 1023;stuck 2 1023;stuck 3 511;"
                + "move 3 9");
        for (int ring = 0; ring < 10; ring++) {
            x.minutes(ring, 99);
        }
        for (int s = 0; s < 8; s++) {
            due("shelves", x.status(7), s);
            if (s % 2 == 0) {
                x.row(s, 0, 0);
            } else {
                x.show(s, s / 2);
            }
        }
        x.feed(0);
        x.feed(0);
        int[] all = {4, 39, 39, 1, 990, 2, 1, 8};
        for (int what = 0; what < all.length; what++) {
            due("status " + what, x.status(what), all[what]);
        }
        x.drop();
        due("on, of what is left", x.status(1), 30);
        due("stuck, of what is left", x.status(2), 30);
        due("moved all the same", x.status(3), 1);
        x.show(0, NONE);
        due("shelves, of what is left", x.status(7), 6);
        says("12 to 16: REFUSALS -2 to -6.");
        x = told("bar 0 1;bar 0 1;bar 0 1;bar 0 1");
        x.show(0, 0);
        for (int many = 1; many <= 16; many *= 2) {
            refuseOnceMore(x, many);
        }
        int[] refused = {16, 8, 4, 2, 1};
        for (int i = 0; i < refused.length; i++) {
            due("refusals " + (-2 - i), x.status(12 + i), refused[i]);
        }
        says("NONE another what.");
        for (int what : new int[] {8, 9, 10, 11, 17, 18, -1, -2, Integer.MAX_VALUE, Integer.MIN_VALUE}) {
            due("status " + what, x.status(what), NONE);
        }
        due("that isn't refused", x.status(12), 16);
    }

    /** 16 BAD in all, 8 OTHER, 4 NOTHING, 2 STUCK, 1 FULL. */
    private static void refuseOnceMore(RingsOff x, int many) {
        for (int i = 0; i < many; i++) {
            switch (many) {
                case 1 -> x.bar(BAR, 1);
                case 2 -> x.back();
                case 4 -> x.set(1, 0, 0);
                case 8 -> x.set(0, 0, 0);
                default -> x.feed(256);
            }
        }
    }
}
