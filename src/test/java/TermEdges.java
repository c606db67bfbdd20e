/** The edges of BARS, THE TAPE, MOVES and of what comes of them, as the document's terms tell them. */
final class TermEdges extends Edges {
    private static final String OFF_ALONE = "bar 5 3;table 0 0 1 0;table 0 1 2 0;table 0 2 4 0";
    private static final String STAR_AT_NONE = "bar 5 3 on 0;table 0 0 0 7;table 0 1 0 7;table 0 2 0 7";
    private static final String STAR_AT_ALL = "bar 5 3;table 0 0 7 0;table 0 1 7 0;table 0 2 7 0";

    TermEdges(Checks checks, Sentences sentences) {
        super(checks, sentences);
    }

    void all() {
        terms();
        numbersAndKinds();
        sizesAndSets();
        minutesOfRings();
        tapeAndTokens();
        statements();
        faults();
        earlyEnds();
        movesOfKinds();
        movesOfTold();
        waysAndLines();
        reachOfSets();
        shapesAndParts();
        longestSaveLuck();
        minutesOfWays();
        rowsOfPictures();
        games();
        draws();
        shelves();
    }

    // ---- bars

    private void numbersAndKinds() {
        says("BARS have numbers, 0 on, 4 at most,");
        RingsOff x = new RingsOff();
        due("no bar", x.reach(0), BAD);
        for (int bar = 0; bar < 4; bar++) {
            due("the next number", x.bar(BAR, 1), bar);
        }
        due("a fifth", x.bar(BAR, 1), FULL);
        due("still four", x.status(0), 4);
        due("the fourth is there", x.reach(3), 2);
        due("one goes", x.drop(), 3);
        due("a fourth again", x.bar(BAR, 1), 3);

        says("each of a KIND: 0 BAR; 1 CHAIN, 3 TWO, 5 TOLD, each under BAR; 2 PAIR, 4 AFTER, each under CHAIN;");
        boolean[][] under = new boolean[6][6];
        for (int kind = 0; kind < 6; kind++) {
            under[kind][kind] = true;
            under[kind][BAR] = true;
        }
        under[PAIR][CHAIN] = true;
        under[AFTER][CHAIN] = true;
        for (int kind = 0; kind < 6; kind++) {
            RingsOff y = with(kind, 2, 3);
            y.show(0, 0);
            due("kind", y.barOf(0, 0), kind);
            for (int wanted = 0; wanted < 6; wanted++) {
                due(kind + " taken for " + wanted, y.says(0, wanted) == OTHER ? 0 : 1, under[kind][wanted] ? 1 : 0);
            }
        }
        due("no kind", new RingsOff().bar(-1, 1), BAD);
        due("no kind", new RingsOff().bar(6, 1), BAD);
    }

    private void sizesAndSets() {
        says("SIZE (1 to 10 rings, 0 on),");
        due("no ring", new RingsOff().bar(BAR, 0), BAD);
        due("eleven", new RingsOff().bar(BAR, 11), BAD);
        for (int size = 1; size <= 10; size += 9) {
            RingsOff x = with(BAR, size, 0);
            due("size", x.barOf(0, 1), size);
            due("ring 0", x.first(0, 0), 1);
            due("the last ring", x.first(0, size - 1), 1);
            due("no ring above", x.first(0, size), BAD);
            due("all on", x.put(0, (1 << size) - 1), 0);
            due("a ring more", x.put(0, 1 << size), BAD);
        }

        says("which rings are ON (bits, all at first),");
        for (int size = 1; size <= 10; size++) {
            RingsOff x = new RingsOff();
            x.bar(CHAIN, size);
            due("all on", x.barOf(0, 2), (1 << size) - 1);
        }
        due("ring 0 is bit 0", with(CHAIN, 3, 1).moves(0), 3);
        due("ring 2 is bit 2", with(AFTER, 3, 4).moves(0), 6);

        says("which are STUCK (bits, none at first);");
        due("none", with(BAR, 10, 0).barOf(0, 3), 0);
        due("ring 9 is bit 9", stuck(BAR, 10, 0, 512).moves(0), 511);
        due("all", stuck(BAR, 10, 0, 1023).moves(0), 0);

        says("of a TOLD one for each ring MUST and NOT (bits each, 0 at first).");
        RingsOff x = new RingsOff();
        x.bar(TOLD, 10);
        due("none", mustsAndNots(x, 10), 0);
        for (int ring = 0; ring < 10; ring++) {
            due("table", x.table(0, ring, 1023, 1 << ring), 1);
        }
        due("of each ring", mustsAndNots(x, 10), 10 * 1023 + 1023);
        x.stick(0, 1023);
        x.drop();
        x.bar(TOLD, 10);
        due("none of the one ahead", mustsAndNots(x, 10), 0);
        due("nor stuck", x.barOf(0, 3), 0);
        due("so that any may be", x.moves(0), 1023);
        x = told("bar 5 2;bar 0 1;bar 0 1;bar 5 2;table 0 1 1 2;table 3 0 3 1");
        x.drop();
        x.bar(TOLD, 2);
        due("none of the one ahead in the last place", x.barOf(3, 10) + x.barOf(3, 20), 0);
        due("those of ring 1 of the first as they were", x.barOf(0, 11) * 10 + x.barOf(0, 21), 12);
    }

    private static int mustsAndNots(RingsOff x, int size) {
        int sum = 0;
        for (int ring = 0; ring < size; ring++) {
            sum += x.barOf(0, 10 + ring) + x.barOf(0, 20 + ring);
        }
        return sum;
    }

    private void minutesOfRings() {
        says("MINUTES of a ring (0 to 99; 1 at first), the same for all BARS.");
        RingsOff x = new RingsOff();
        for (int ring = 0; ring < 10; ring++) {
            due("at first", x.minutes(ring, 99), 1);
            due("the most", x.minutes(ring, 0), 99);
            due("the least", x.minutes(ring, ring), 0);
        }
        due("too few", x.minutes(0, -1), BAD);
        due("too many", x.minutes(0, 100), BAD);
        x.minutes(0, 42);
        for (int bar = 0; bar < 4; bar++) {
            x.bar(BAR, 1);
            due("of each bar", x.time(bar, 0), 42);
        }
    }

    // ---- the tape

    /** A fault is told, refused once as BAD, and leaves no bar and no tape. */
    private void fault(String text, int place) {
        RingsOff x = new RingsOff();
        due("fault of " + text, read(x, text), -20 - place);
        due("refused", x.status(12), 1);
        due("bars behind " + text, x.status(0), 0);
        due("the tape behind " + text, x.status(5), 0);
    }

    private void tapeAndTokens() {
        says("A SET of BARS is read from THE TAPE (bytes, 250 at most).");
        RingsOff x = new RingsOff();
        String text = "bar 0 1" + " ".repeat(235) + ";bar 0 2";
        for (int i = 0; i < 250; i++) {
            due("size", x.feed(text.charAt(i)), i + 1);
        }
        due("the 251st", x.feed(';'), FULL);
        due("all 250 are read", x.bars(), 2);
        due("the last of them, too", x.barOf(1, 1), 2);

        says("TOKENS, each as long as can be:");
        due("one number of two digits", told("bar 1 10").barOf(0, 1), 10);
        due("a word ends at a number", told("bar1 3on2").barOf(0, 2), 2);
        fault("bar 1 100", 6);
        fault("barbar 1 1", 0);
        fault("bar 1 1onon 1", 7);
        fault("bar 1 3 on 111", 11);

        says("WORDS (a .. z),");
        fault("bara 1 1", 0);
        fault("barz 1 1", 0);
        fault("bar` 1 1", 3);
        fault("bar{ 1 1", 3);
        fault("barA 1 1", 3);
        fault("Bar 1 1", 0);
        for (String word : new String[] {"car", "bas", "ber", "ba", "b", "ttuck", "tacle", "manutes", "mov", "on"}) {
            fault(" " + word + " 0 0 0 0", 1);
        }
        fault("bar 1 1 an 1", 8);
        fault("bar 1 1 oo 1", 8);
        fault("bar 1 1 o 1", 8);

        says("NUMBERS (digits),");
        due("0 and 9", told("minutes 9 90").status(4), 99);
        fault("bar 1/1", 5);
        fault("bar 1:1", 5);
        fault("bar 1 -1", 6);

        says("the SIGN ;");
        due("two", told("bar 1 1;bar 1 1").status(0), 2);
        fault("bar 1 1:bar 1 1", 7);
        fault("bar 1 1<bar 1 1", 7);

        says("- blanks (32) may stand anywhere between.");
        due("many", told("   bar   1   1   ;   bar   1   1   on   0   ").status(1), 1);
        due("none", told("bar1 1on0;bar1 1;stuck0 1").status(2), 1);
        fault("ba r 1 1", 0);
        fault("bar 1 1 0", 8);
        fault("\tbar 1 1", 0);
        fault("bar\n1 1", 3);
    }

    private void statements() {
        says("STATEMENTS, one or more, with ; between:");
        fault("", 0);
        fault(";", 0);
        fault(";bar 1 1", 0);
        fault("bar 1 1;", 8);
        fault("bar 1 1;;bar 1 1", 8);
        fault("bar 1 1 bar 1 1", 8);
        RingsOff x = with(BAR, 1, 1);
        due("as many as there is room for", read(x, "move0 0;".repeat(30) + "move0 0"), 31);
        due("each made", x.status(3), 31);

        says("bar K N,");
        due("the least", told("bar 0 1").barOf(0, 0), BAR);
        due("the most", told("bar 5 10").barOf(0, 0), TOLD);
        fault("bar 6 1", 4);
        fault("bar 0 0", 6);
        fault("bar 5 11", 6);

        says("perhaps on S (S: bits of rings as a number);");
        due("without it all", told("bar 0 10").barOf(0, 2), 1023);
        due("none", told("bar 0 10 on 0").barOf(0, 2), 0);
        due("all", told("bar 0 10 on 1023").barOf(0, 2), 1023);
        fault("bar 0 10 on 1024", 12);
        fault("bar 0 3 on 8", 11);

        says("stuck B S;");
        due("all", told("bar 0 10;stuck 0 1023").barOf(0, 3), 1023);
        due("none again", told("bar 0 10;stuck 0 1023;stuck 0 0").barOf(0, 3), 0);
        due("of the last bar", told("bar 0 1;bar 0 1;bar 0 1;bar 0 1;stuck 3 1").barOf(3, 3), 1);
        fault("bar 0 10;stuck 0 1024", 17);
        fault("bar 0 1;stuck 1 0", 14);
        fault("stuck 0 0", 6);

        says("table B R M N (a TOLD BAR, a ring, MUST, NOT);");
        x = told("bar 5 10;table 0 9 1023 512;table 0 0 1 1023");
        due("must of the last ring", x.barOf(0, 19), 1023);
        due("not of the last ring", x.barOf(0, 29), 512);
        due("must of ring 0", x.barOf(0, 10), 1);
        due("not of ring 0", x.barOf(0, 20), 1023);
        fault("bar 5 3;table 0 3 0 0", 16);
        fault("bar 5 3;table 0 0 8 0", 18);
        fault("bar 5 3;table 0 0 0 8", 20);

        says("minutes R M (ring 0 to 9);");
        due("the last ring, with most", told("minutes 9 99").minutes(9, 0), 99);
        due("ring 0, with least", told("minutes 0 0").minutes(0, 5), 0);
        fault("minutes 10 0", 8);
        fault("minutes 9 100", 10);

        says("move B V (a MOVE in truth, if it MAY be).");
        x = told("bar 2 3;move 0 20;move 0 0");
        due("both at once, and one", x.barOf(0, 2), 5);
        due("they count", x.status(3), 2);
        fault("bar 1 2;move 1 0", 13);

        says("All comes to what there is, or nothing.");
        String[] good = {"bar 5 3 on 1", "minutes 1 5", "move 0 0"};
        x = told(String.join(";", good));
        due("behind what there is", read(x, "bar 1 2;stuck 1 1"), 2);
        due("the first stays", x.barOf(0, 0), TOLD);
        due("the second comes", x.barOf(1, 3), 1);
        due("a fault at the end", read(x, "move 0 0;stuck 0 1;table 0 0 1 1;minutes 1 6;bar 1 1;move 1 1;"), -82);
        long[] stays = {x.barOf(0, 2), 0, x.barOf(0, 3), 0, x.barOf(0, 10), 0, x.barOf(0, 20), 0,
            x.status(4), 14, x.status(0), 2, x.status(3), 1};
        for (int i = 0; i < stays.length; i += 2) {
            due("nothing of it, " + i / 2, stays[i], stays[i + 1]);
        }
    }

    private void faults() {
        says("The FAULT: the place of the first byte of the first TOKEN that can't stand there");
        fault("bar 9 99 on on", 4);
        fault("  bars 1 1", 2);
        fault("bar on 1", 4);
        fault("bar 1 1 1", 8);
        fault("bar 1 1 on ;", 11);
        fault("bar 1 1 on 1 on 1", 13);
        fault("bar 1 ;", 6);
        fault("7", 0);
        fault("on 1", 0);
        fault("bar 1 1;bar 2 2;bars", 16);

        says("(also a NUMBER that may not be, or has more than 4 digits;");
        due("four digits", told("bar 0001 0010 on 0000").barOf(0, 1), 10);
        fault("bar 00001 1", 4);
        fault("bar 1 00001", 6);
        fault("bar 1 1 on 00001", 11);
        fault("bar 1 4294967297", 6);
        fault("bar 18446744073709551617 1", 4);
        fault("bar 5 1;stuck 00000 0", 14);
        fault("bar 5 1;stuck 0 00000", 16);
        fault("bar 5 1;table 00000 0 0 0", 14);
        fault("bar 5 1;table 0 00000 0 0", 16);
        fault("bar 5 1;table 0 0 00000 0", 18);
        fault("bar 5 1;table 0 0 0 00000", 20);
        fault("minutes 00000 0", 8);
        fault("minutes 0 00000", 10);
        fault("bar 5 1;move 00000 0", 13);
        fault("bar 5 1;move 0 00000", 15);

        says("of table a BAR that isn't TOLD: B;");
        for (int kind = 0; kind < 5; kind++) {
            fault("bar " + kind + " 2;table 0 0 0 0", 14);
            fault("bar " + kind + " 2;table 0 9 9 9", 14);
            fault("bar 5 2;bar " + kind + " 2;table 1", 22);
        }
        fault("bar 5 2;table 1 0 0 0", 14);

        says("of move one that MAY not be: V;");
        fault("bar 1 3;move 0 2", 15);
        fault("bar 1 3;move 0 3", 15);
        fault("bar 1 3;move 0 20", 15);
        fault("bar 2 1;move 0 20", 15);
        fault("bar 2 2 on 1;move 0 20", 20);
        fault("bar 2 2;move 0 19", 15);
        fault("bar 2 2;move 0 21", 15);
        fault("bar 0 1;stuck 0 1;move 0 0", 25);
        fault("bar 1 3;move 0 0;move 0 1", 24);

        says("what there is no room for: its word;");
        fault("bar 0 1;bar 0 1;bar 0 1;bar 0 1;bar 0 1", 32);
        fault("bar 0 1;bar 0 1;bar 0 1;bar 0 1;bar 9 9", 32);
        RingsOff x = told("bar 0 1;bar 0 1;bar 0 1;bar 0 1");
        due("with four there", read(x, " bar 0 1"), -21);
        due("there is room for what is no bar", read(x, "stuck 3 1"), 1);

        says("a byte that begins none);");
        for (int letter = 0; letter < 256; letter++) {
            RingsOff y = new RingsOff();
            due("a byte", read(y, "bar 1 1" + (char) letter), dueBehindBar(letter));
        }
    }

    /** What "bar 1 1" answers with one byte more behind it. */
    private static int dueBehindBar(int letter) {
        if (letter == ' ' || letter == '0') {
            return 1;
        }
        if (letter == ';') {
            return -28;
        }
        return letter >= '1' && letter <= '9' ? -26 : -27;
    }

    private void earlyEnds() {
        says("THE TAPE's size, if it ends too early.");
        String[] early = {"", "bar", "bar 5", "bar 5 2 on", "bar 5 2;", "bar 5 2;stuck", "bar 5 2;stuck 0",
            "bar 5 2;table", "bar 5 2;table 0", "bar 5 2;table 0 0", "bar 5 2;table 0 0 0", "minutes",
            "minutes 9", "bar 5 2;move", "bar 5 2;move 0"};
        for (String text : early) {
            fault(text, text.length());
            fault(text + "   ", text.length() + 3);
        }
        String whole = "bar 5 2;" + " ".repeat(242);
        fault(whole, 250);
        due("not too early", told("bar 5 2   ").status(0), 1);
    }

    // ---- moves

    private static boolean chainMay(int set, int k) {
        int below = (1 << k) - 1;
        return k == 0 || (set & below) == 1 << k - 1;
    }

    private static int mirrored(int set, int size) {
        int other = 0;
        for (int ring = 0; ring < size; ring++) {
            other += (set >> ring) % 2 << size - 1 - ring;
        }
        return other;
    }

    private static int chainMoves(int set, int size) {
        int moves = 0;
        for (int ring = 0; ring < size; ring++) {
            moves += chainMay(set, ring) ? 1 << ring : 0;
        }
        return moves;
    }

    private static int afterMoves(int set, int size) {
        return mirrored(chainMoves(mirrored(set, size), size), size);
    }

    private static int pairMoves(int set, int size) {
        boolean alike = set % 4 == 0 || set % 4 == 3;
        return chainMoves(set, size) + (size >= 2 && alike ? 1 << BOTH : 0);
    }

    private void movesOfKinds() {
        says("A MOVE is a ring's number (it goes on, if it is off, else off),");
        RingsOff x = with(BAR, 10, 1023);
        for (int ring = 0; ring < 10; ring++) {
            due("off", x.move(0, ring), 1023 - (1 << ring));
            due("on", x.move(0, ring), 1023);
        }
        due("no ring", x.move(0, -1), BAD);
        due("no ring", x.move(0, 10), BAD);

        says("or 20: rings 0 and 1 at once (of a PAIR).");
        x = with(PAIR, 2, 3);
        due("off", x.move(0, BOTH), 0);
        due("on", x.move(0, BOTH), 3);
        due("19 is none", x.move(0, 19), BAD);
        due("21 is none", x.move(0, 21), BAD);
        for (int kind = 0; kind < 6; kind++) {
            due("of a PAIR alone", with(kind, 2, 3).may(0, BOTH), kind == PAIR ? 1 : BAD);
        }

        says("It MAY be, if no ring of it is STUCK and: BAR: any ring.");
        for (int stuck = 0; stuck < 8; stuck++) {
            due("any ring not stuck", stuck(BAR, 3, 5, stuck).moves(0), 7 - stuck);
            due("both at once, none of them stuck", stuck(PAIR, 3, 3, stuck).may(0, BOTH), stuck % 4 == 0 ? 1 : 0);
        }
        due("any of ten", with(BAR, 10, 512).moves(0), 1023);

        says("CHAIN: ring 0; ring k, if ring k less 1 is ON and all rings below that are off.");
        movesOfAll(CHAIN);
        due("ring 9 of ten", with(CHAIN, 10, 256).moves(0), 513);
        due("ring 9, one below in the way", with(CHAIN, 10, 257).moves(0), 3);
        due("no ring above the last", with(CHAIN, 10, 512).moves(0), 1);

        says("PAIR: as CHAIN; and 20, if SIZE is 2 at least and rings 0 and 1 are both ON, or both off.");
        movesOfAll(PAIR);
        due("of size 1 none", with(PAIR, 1, 0).moves(0), 1);
        due("of size 2 both off", with(PAIR, 2, 0).moves(0), 1 + (1 << BOTH));
        due("of size 10", with(PAIR, 10, 1023).moves(0), 3 + (1 << BOTH));

        says("AFTER: as CHAIN, rings counted from the other end (SIZE less 1 as 0, and so on).");
        movesOfAll(AFTER);
        due("ring 0 of ten", with(AFTER, 10, 2).moves(0), 513);
        due("of size 1", with(AFTER, 1, 1).moves(0), 1);

        says("TWO: as CHAIN, or as AFTER.");
        movesOfAll(TWO);
        due("of size 1", with(TWO, 1, 0).moves(0), 1);
        due("of ten", with(TWO, 10, 4).moves(0), 1 + 8 + 2 + 512);
    }

    private void movesOfAll(int kind) {
        for (int size = 1; size <= 6; size++) {
            long[] moves = ofAllSets(kind, size, y -> y.moves(0));
            for (int set = 0; set < moves.length; set++) {
                long want = kind == CHAIN ? chainMoves(set, size) : kind == PAIR ? pairMoves(set, size)
                        : kind == AFTER ? afterMoves(set, size) : chainMoves(set, size) | afterMoves(set, size);
                due("moves of size " + size + " on " + set, moves[set], want);
            }
        }
    }

    private void movesOfTold() {
        says("TOLD: a ring, if all of its MUST are ON and all of its NOT are off (whether it is among them or not).");
        RingsOff x = told("bar 5 3;table 0 0 1 0;table 0 1 0 2;table 0 2 4 4");
        for (int set = 0; set < 8; set++) {
            x.put(0, set);
            due("itself among them, on " + set, x.moves(0), set % 2 + (set / 2 % 2 == 0 ? 2 : 0));
        }
        x = told("bar 0 1;bar 0 1;bar 5 1;bar 5 10 on 1022;table 3 9 1022 1;table 3 0 512 0");
        due("all of many", x.moves(3), 1023);
        x.put(3, 1020);
        due("one of them off", x.moves(3), 511);
        x.put(3, 1023);
        due("one of the others on", x.moves(3), 511);
        x.put(3, 0);
        due("none on", x.moves(3), 510);
        due("of another bar", x.moves(2), 1);
    }

    private void waysAndLines() {
        says("MINUTES of a MOVE: of its ring; of 20 the greater of both.");
        int[][] minutes = {{0, 99, 99}, {99, 0, 99}, {5, 5, 5}, {6, 5, 6}, {5, 6, 6}};
        for (int[] row : minutes) {
            RingsOff x = with(PAIR, 2, 3);
            x.minutes(0, row[0]);
            x.minutes(1, row[1]);
            due("of 20", x.time(0, 0), row[2]);
            due("of ring 0", x.time(0, 2), row[0]);
        }
        RingsOff ten = with(BAR, 10, 512);
        ten.minutes(9, 77);
        due("of ring 9", ten.time(0, 0), 77);

        says("FROM one SET of rings ON to another: FEWEST MOVES by which it comes so, each of which MAY be;");
        due("from itself", with(CHAIN, 10, 341).fewest(0, 341), 0);
        due("the whole line", with(CHAIN, 10, 0).fewest(0, 512), 1023);
        RingsOff x = told(OFF_ALONE);
        due("one way", x.between(0, 7, 0), 3);
        due("not the other", x.between(0, 0, 7), NONE);
        due("none may be", stuck(BAR, 3, 7, 7).fewest(0, 6), NONE);

        says("THE WAY: of all such rows the first (MOVES by their numbers, less ahead of more).");
        x = with(BAR, 10, 1023);
        for (int i = 0; i < 10; i++) {
            due("less ahead", x.way(0, 0, i), i);
        }
        due("the fewest, though ring 0 may be", with(CHAIN, 4, 15).way(0, 0, 0), 1);
        x = told("bar 5 3;table 0 0 0 4;table 0 2 2 0");
        due("rows of moves, not moves alone", x.way(0, 0, 0) * 100 + x.way(0, 0, 1) * 10 + x.way(0, 0, 2), 201);

        says("LINE of CHAINS with 60 rings at most: PLACE of a SET (bits): how many MOVES it is from all off; "
                + "SET of a PLACE.");
        long most = (1L << 60) - 1;
        due("all off", x.place(0), 0);
        due("none of a line", x.setOf(0), 0);
        due("the far end", x.place(1L << 59), most);
        due("the set at the far end", x.setOf(most), 1L << 59);
        due("ring 60", x.place(1L << 60), BAD);
        due("a place behind the far end", x.setOf(1L << 60), BAD);
        long[] fewest = ofAllSets(CHAIN, 7, y -> y.fewest(0, 0));
        for (int set = 0; set < fewest.length; set++) {
            due("moves from all off", x.place(set), fewest[set]);
            due("and back", x.setOf(fewest[set]), set);
        }
    }

    // ---- what comes of it

    private void reachOfSets() {
        says("REACH: how many SETS can be come to from how a BAR is (that one, too).");
        due("that one alone", stuck(CHAIN, 5, 9, 31).reach(0), 1);
        due("all", with(CHAIN, 10, 9).reach(0), 1024);
        due("those ahead on one way", told(OFF_ALONE).reach(0), 8);
        due("none back", told(OFF_ALONE.replace("bar 5 3", "bar 5 3 on 0")).reach(0), 1);

        says("FARTHEST: the SET of these that needs most MOVES, of several the least as bits.");
        RingsOff x = stuck(CHAIN, 5, 9, 31);
        due("that one", x.farthest(0, 0), 9);
        due("no moves", x.farthest(0, 1), 0);
        x = with(CHAIN, 10, 0);
        due("the far end", x.farthest(0, 0), 512);
        due("so far", x.farthest(0, 1), 1023);
        x = told(STAR_AT_ALL);
        due("found last, but the least", x.farthest(0, 0), 3);
        due("one move", x.farthest(0, 1), 1);
        due("found first, and the least", told(STAR_AT_NONE).farthest(0, 0), 1);
    }

    private void shapesAndParts() {
        says("SHAPE of these: by pairs of two of them, one of which can be made the other by one MOVE:");
        due("not by a set that can't be come to", told("bar 5 3 on 0;table 0 0 1 0;table 0 1 2 0;table 0 2 4 0")
                .shape(0), 0);
        due("one way is enough", told("bar 5 2 on 0;table 0 0 0 1;table 0 1 0 2").shape(0), 2);
        due("the other way, too", told("bar 5 2;table 0 0 1 0;table 0 1 2 0").shape(0), 2);
        due("by 20, too", with(PAIR, 2, 2).shape(0), 2);
        says("2 ROUNDS, if there are as many pairs as SETS, at least;");
        due("just as many", with(BAR, 2, 0).shape(0), 2);
        due("more", with(BAR, 3, 0).shape(0), 2);
        due("one less", with(CHAIN, 2, 0).shape(0), 0);
        says("else 0 a LINE, if no SET is in more than two pairs;");
        due("one set", stuck(BAR, 3, 5, 7).shape(0), 0);
        due("two sets", with(BAR, 1, 0).shape(0), 0);
        due("one in two pairs", told("bar 5 2 on 0;table 0 0 0 3;table 0 1 0 3").shape(0), 0);
        due("1024 sets", with(CHAIN, 10, 0).shape(0), 0);
        says("else 1 a TREE.");
        due("one in three pairs", told(STAR_AT_NONE).shape(0), 1);
        due("so at its other end", told(STAR_AT_ALL).shape(0), 1);

        says("PARTS: into how many parts all SETS of its SIZE fall, if both of each pair are in one part.");
        due("each alone", stuck(BAR, 10, 0, 1023).parts(0), 1024);
        due("two", stuck(BAR, 10, 0, 512).parts(0), 2);
        due("one", with(CHAIN, 10, 0).parts(0), 1);
        due("one way joins", told(OFF_ALONE).parts(0), 1);
        due("some alone", told(STAR_AT_ALL).parts(0), 5);
        due("of size 1", stuck(BAR, 1, 0, 1).parts(0), 2);
    }

    private void longestSaveLuck() {
        says("LONGEST (SIZE 6 at most):");
        due("of size 6", with(CHAIN, 6, 5).longest(0), 63);
        due("of size 7", with(CHAIN, 7, 5).longest(0), STUCK);
        due("of size 10", with(BAR, 10, 5).longest(0), STUCK);
        due("of size 1", with(BAR, 1, 0).longest(0), 1);
        says("the greatest FEWEST from one SET to another, of all two of which the other can be come to from the one.");
        due("one way", told(OFF_ALONE).longest(0), 3);
        due("however it is", told(OFF_ALONE.replace("bar 5 3", "bar 5 3 on 0")).longest(0), 3);
        due("the other way", told("bar 5 3;table 0 0 0 1;table 0 1 0 2;table 0 2 0 4").longest(0), 3);
        due("between two ends", told(STAR_AT_ALL).longest(0), 1);
        due("in two parts", stuck(CHAIN, 6, 0, 32).longest(0), 31);

        says("SAVE by 20: FEWEST from all ON to all off of a CHAIN of n rings (1 to 10) less that of a PAIR.");
        RingsOff x = new RingsOff();
        int[] chain = {1, 2, 5, 10, 21, 42, 85, 170, 341, 682};
        int[] pair = {1, 1, 4, 7, 16, 31, 64, 127, 256, 511};
        for (int n = 1; n <= 10; n++) {
            due("of a chain", with(CHAIN, n, (1 << n) - 1).fewest(0, 0), chain[n - 1]);
            due("of a pair", with(PAIR, n, (1 << n) - 1).fewest(0, 0), pair[n - 1]);
            due("less that", x.save(n), chain[n - 1] - pair[n - 1]);
        }
        due("of none", x.save(0), BAD);
        due("of eleven", x.save(11), BAD);

        says("LUCK of a CHAIN (that alone; nothing STUCK):");
        for (int kind = 0; kind < 6; kind++) {
            due("of that alone", with(kind, 2, 3).luck(0), kind == CHAIN ? 8 : STUCK);
        }
        due("the last ring stuck", stuck(CHAIN, 10, 0, 512).luck(0), STUCK);
        says("the mean number of MOVES till all are off, if each MOVE is by even chances one of those that MAY be: "
                + "PLACE times (twice the greatest PLACE less PLACE).");
        due("all off", with(CHAIN, 10, 0).luck(0), 0);
        due("the far end", with(CHAIN, 10, 512).luck(0), 1023 * 1023);
        due("next to all off", with(CHAIN, 10, 1).luck(0), 2045);
        due("of size 1", with(CHAIN, 1, 1).luck(0), 1);
    }

    private void minutesOfWays() {
        says("TIME of THE WAY to a SET: its MINUTES together.");
        RingsOff x = with(CHAIN, 3, 7);
        x.minutes(0, 99);
        x.minutes(1, 0);
        due("there already", x.time(0, 7), 0);
        due("a ring of no minutes", x.time(0, 5), 0);
        due("all", x.time(0, 0), 3 * 99 + 1);

        says("BELL: by which minute a ring has moved the k-th time (k 1 on) on THE WAY to all off.");
        x = with(CHAIN, 3, 7);
        x.minutes(0, 10);
        x.minutes(1, 5);
        x.minutes(2, 50);
        int[][] bells = {{0, 0, BAD}, {0, 1, 10}, {0, 2, 70}, {0, 3, 85}, {0, 4, NONE}, {1, 1, 75}, {1, 2, NONE},
            {2, 1, 60}, {2, 2, NONE}, {0, Integer.MAX_VALUE, NONE}, {0, Integer.MIN_VALUE, BAD}};
        for (int[] bell : bells) {
            due("ring " + bell[0] + " time " + bell[1], x.bell(0, bell[0], bell[1]), bell[2]);
        }
        x = with(PAIR, 2, 3);
        x.minutes(1, 7);
        due("20 moves ring 0", x.bell(0, 0, 1), 7);
        due("20 moves ring 1", x.bell(0, 1, 1), 7);
        due("all off already", with(CHAIN, 3, 0).bell(0, 0, 1), NONE);
    }

    private void rowsOfPictures() {
        says("PICTURES: a ROW of SETS in the order in which they were seen, the first from how it is: "
                + "all FEWEST together;");
        RingsOff x = row(with(CHAIN, 10, 0), 0, 3, 0, 0, 512, 0, 512, 512, 0, 512, 0, 512);
        due("as it is", x.pictures(0, 1, 0), 0);
        due("again", x.pictures(0, 2, 0), 0);
        due("the whole line", x.pictures(0, 3, 0), 1023);
        due("ten", x.pictures(0, 10, 0), 7 * 1023);
        says("BROKEN: the first that can't be come to from the one ahead (the first: from how it is).");
        due("none", x.broken(0, 10, 0), NONE);
        x = row(told(OFF_ALONE), 0, 0, 7, 3, 3, 1, 2, 0, 4, 7, 7, 7);
        due("ahead of it none", x.broken(0, 4, 0), NONE);
        due("the first of several", x.broken(0, 5, 0), 4);
        due("not one behind it", x.broken(0, 10, 0), 4);
        x.put(0, 3);
        due("the first: from how it is", x.broken(0, 10, 0), 0);

        says("JUDGED: a ROW of MOVES: the first that MAY not be.");
        x = row(with(CHAIN, 3, 7), 0, 2, 0, 0, 1, 1, 0, 1, 0, 2, 2);
        due("the first", x.judge(0, 1, 0), NONE);
        due("the last of six", x.judge(0, 6, 0), 5);
        due("the first of several", x.judge(0, 9, 0), 5);

        says("ONCE: the least ring that, moved once by hand whether it MAY or not (STUCK, too) just behind the "
                + "picture ahead of the BROKEN one (the first: from how it is), makes that one such as can be come to.");
        x = row(told(OFF_ALONE), 0, 0, 7, 1, 3, 7);
        due("behind the picture ahead", x.once(0, 3, 0), 1);
        due("not behind a later one", x.once(0, 4, 0), 1);
        x.put(0, 0);
        due("the first: from how it is", x.once(0, 1, 0), NONE);
        x.put(0, 6);
        due("so that it is just that", x.once(0, 1, 0), 0);
        x = row(told(OFF_ALONE + ";stuck 0 5"), 0, 0, 3, 0);
        due("stuck, too", x.once(0, 1, 0), 2);
        due("one stuck is left", x.once(0, 2, 0), 2);
        due("with a way on", row(told("bar 5 2 on 0;table 0 0 3 0"), 0, 0, 3).once(0, 1, 0), 0);
        due("not with a way back alone", row(told("bar 5 2 on 0;table 0 0 2 1;table 0 1 3 0"), 0, 0, 3)
                .once(0, 1, 0), 1);
        due("the least of two", row(told("bar 5 2 on 0;table 0 0 2 0;table 0 1 1 0"), 0, 0, 3).once(0, 1, 0), 0);
        due("the last of ten", row(stuck(BAR, 10, 0, 1023), 0, 1, 512).once(0, 1, 0), 9);
    }

    private void games() {
        says("GAME (SIZE 3 at most):");
        due("of size 3", with(BAR, 3, 0).game(0, 0), 1);
        due("of size 4", with(BAR, 4, 0).game(0, 0), STUCK);
        due("of size 10", with(BAR, 10, 0).game(0, 1), STUCK);
        due("of size 1", with(BAR, 1, 0).game(0, 0), 1);
        says("two move by turns, never to a SET that has been;");
        due("back would be to the first", with(CHAIN, 1, 0).game(0, 0), 1);
        due("round would be to the first", with(BAR, 2, 0).game(0, 0), 1);
        for (int place = 0; place < 4; place++) {
            int set = place ^ place / 2;
            due("on a line of four", with(CHAIN, 2, set).game(0, 0), oddWay(place, 3));
            due("the last ring stuck", stuck(CHAIN, 2, set, 2).game(0, 0), 1);
        }
        for (int place = 0; place < 8; place++) {
            due("on a line of eight", with(CHAIN, 3, place ^ place / 2).game(0, 0), oddWay(place, 7));
        }
        due("on a line of three, from its middle", told("bar 5 2 on 0;table 0 0 0 2;table 0 1 0 1").game(0, 0), 1);
        due("on a line of three, from an end", told("bar 5 2 on 1;table 0 0 0 2;table 0 1 0 1").game(0, 0), 0);
        due("on a line by all on, from its middle", told("bar 5 2 on 3;table 0 0 2 0;table 0 1 1 0").game(0, 0), 1);
        due("on a line by all on, from an end", told("bar 5 2 on 1;table 0 0 2 0;table 0 1 1 0").game(0, 0), 0);
        says("who can't has lost: 1 if the first wins with best play, else 0;");
        due("the first can't", stuck(BAR, 3, 5, 7).game(0, 0), 0);
        due("the second can't", stuck(BAR, 3, 5, 6).game(0, 0), 1);
        due("by one of three", told(OFF_ALONE + ";table 0 0 7 0;table 0 1 6 0").game(0, 0), 1);
        due("two moves and no more", told("bar 5 2;table 0 0 3 0;table 0 1 2 1").game(0, 0), 0);
        says("the least MOVE that wins.");
        due("of several", with(BAR, 3, 5).game(0, 1), 0);
        due("not one that loses", told(OFF_ALONE + ";table 0 0 7 0;table 0 1 6 0;table 0 2 2 2").game(0, 1), 1);
        due("the last ring", stuck(BAR, 3, 5, 3).game(0, 1), 2);
        due("none", stuck(BAR, 3, 5, 7).game(0, 1), NONE);
    }

    /** On a line who has an odd way to one of its ends goes there and wins. */
    private static int oddWay(int place, int last) {
        return place % 2 == 1 || (last - place) % 2 == 1 ? 1 : 0;
    }

    private void draws() {
        says("IN TRUTH: MOVES; by DRAWS: each of n MOVES is, of those that MAY be (by numbers, 20 last), the one by a "
                + "DRAW below how many there are.");
        boolean[] seen = new boolean[3];
        for (int seed = 0; seed < 8; seed++) {
            RingsOff x = with(PAIR, 2, 3);
            x.seed(seed);
            int drawn = (int) (drawBits(seed) % 3);
            seen[drawn] = true;
            due("a move", x.play(0, 1), 1);
            due("the one drawn", x.barOf(0, 2), new int[] {2, 1, 0}[drawn]);
        }
        due("each of three is drawn", (seen[0] ? 1 : 0) + (seen[1] ? 1 : 0) + (seen[2] ? 1 : 0), 3);
        RingsOff one = with(BAR, 1, 1);
        due("of one", one.play(0, 2), 2);
        due("two draws", one.status(6), (int) (nextSeed((int) nextSeed(1))));

        says("MOVED: how many in all (0 at first).");
        RingsOff x = new RingsOff();
        due("at first", x.status(3), 0);
        due("two bars", read(x, "bar 0 1;bar 1 10;move 0 0;move 1 1"), 4);
        x.move(0, 0);
        x.goes(1, 0, 60);
        x.play(1, 60);
        row(x, 0, 0, 0, 0).moved(0, 2, 0);
        due("in all", x.status(3), 2 + 1 + 60 + 60 + 2);

        says("A DRAW below n: SEED (1 at first) becomes SEED times 1103515245, and 12345 (an int, wrapping); "
                + "its upper 16 bits, no sign, modulo n.");
        due("at first", new RingsOff().status(6), 1);
        int[] seeds = {1, 0, -1, 2, 3, 7, Integer.MAX_VALUE, Integer.MIN_VALUE, 123456789, -123456789};
        int below = 0;
        for (int seed : seeds) {
            for (int size = 1; size <= 10; size++) {
                RingsOff y = with(BAR, size, 0);
                y.seed(seed);
                y.play(0, 1);
                due("seed behind " + seed, y.status(6), (int) nextSeed(seed));
                due("ring by " + seed + " of " + size, y.barOf(0, 2), 1 << drawBits(seed) % size);
            }
            below += (int) nextSeed(seed) < 0 ? 1 : 0;
        }
        due("of ten seeds some come to be below 0", below > 2 ? 1 : 0, 1);
    }

    private static long nextSeed(int seed) {
        return seed * 1103515245L + 12345;
    }

    private static long drawBits(int seed) {
        return (nextSeed(seed) & 0xFFFFFFFFL) / 65536;
    }

    private void shelves() {
        says("SHELVES 0 to 7 hold NOTHING (at first), a ROW, or a BAR.");
        RingsOff x = with(BAR, 1, 1);
        for (int s = -1; s <= 8; s++) {
            boolean is = s >= 0 && s <= 7;
            due("at first", x.holds(s), NONE);
            due("a row", x.row(s, 3, 1), is ? 1 : BAD);
            due("holds it", x.holds(s), is ? 3 : NONE);
            due("a bar", x.show(s, 0), is ? 1 : BAD);
            due("holds it", x.holds(s), is ? 10 : NONE);
            due("nothing", x.show(s, NONE), is ? 1 : BAD);
            due("holds it", x.holds(s), NONE);
        }

        says("A ROW has a SORT (0 bytes, 1 shorts, 2 ints, 3 longs, 4 booleans)");
        for (int sort = -1; sort <= 5; sort++) {
            due("sort " + sort, x.row(0, sort, 1), sort >= 0 && sort <= 4 ? 1 : BAD);
        }
        says("and 0 to 40 elements (0, or not so, at first);");
        due("fewer than none", x.row(0, 0, -1), BAD);
        due("more", x.row(0, 0, 41), BAD);
        due("none", x.row(1, 0, 0), 1);
        due("has no first", x.set(1, 0, 1), BAD);
        for (int sort = 0; sort <= 4; sort++) {
            due("most", x.row(sort + 2, sort, 40), 1);
            due("has no 41st", x.set(sort + 2, 40, 1), BAD);
            for (int i = 0; i < 40; i += 13) {
                due("at first", x.element(sort + 2, i), 0);
                due("set", x.set(sort + 2, i, 1), 1);
            }
        }
        for (int sort = 0; sort <= 4; sort++) {
            due("anew", x.row(sort + 2, sort, 40), 1);
            for (int i = 0; i < 40; i += 13) {
                due("anew at first", x.element(sort + 2, i), 0);
            }
        }
        due("a short one", x.row(2, 0, 1), 1);
        due("a long one", x.row(2, 0, 40), 1);
        due("nothing is left in it", x.element(2, 39), 0);

        says("what is put in keeps its lowest bits (of booleans: whether it is not 0); told they are numbers (1, 0).");
        long[][] bits = {{0, 127, 127}, {0, 128, -128}, {0, 255, -1}, {0, 256, 0}, {0, -129, 127}, {0, -1, -1},
            {1, 32767, 32767}, {1, 32768, -32768}, {1, 65535, -1}, {1, 65536, 0}, {1, -32769, 32767},
            {2, Integer.MAX_VALUE, Integer.MAX_VALUE}, {2, 1L << 31, Integer.MIN_VALUE}, {2, 1L << 32, 0},
            {2, -1L - (1L << 31), Integer.MAX_VALUE}, {3, Long.MAX_VALUE, Long.MAX_VALUE},
            {3, Long.MIN_VALUE, Long.MIN_VALUE}, {3, -1, -1}, {4, 0, 0}, {4, 1, 1}, {4, -1, 1}, {4, 2, 1},
            {4, 256, 1}, {4, 1L << 32, 1}, {4, Long.MIN_VALUE, 1}};
        for (long[] kept : bits) {
            due("of sort " + kept[0] + " " + kept[1], row(x, 0, (int) kept[0], kept[1]).element(0, 0), kept[2]);
        }
    }
}
