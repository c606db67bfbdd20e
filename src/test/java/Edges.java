import java.util.function.ToLongFunction;

/** What the tests of the document's edges share: the sentence that a check is for, and objects to ask. */
abstract class Edges {
    static final int NONE = -1;
    static final int BAD = -2;
    static final int OTHER = -3;
    static final int NOTHING = -4;
    static final int STUCK = -5;
    static final int FULL = -6;
    static final int BAR = 0;
    static final int CHAIN = 1;
    static final int PAIR = 2;
    static final int TWO = 3;
    static final int AFTER = 4;
    static final int TOLD = 5;
    static final int BOTH = 20;

    private final Checks checks;
    private final Sentences sentences;
    private String section = "";

    Edges(Checks checks, Sentences sentences) {
        this.checks = checks;
        this.sentences = sentences;
    }

    void terms() {
        section = "Terms";
    }

    void promise(int number) {
        section = "Promise " + number;
    }

    /** The checks behind this one are for these words of the document. */
    void says(String words) {
        checks.part(section + ", \"" + words + "\"");
        checks.holds("the document doesn't say so", sentences.name(section, words));
    }

    void due(String what, long got, long want) {
        checks.due(what, got, want);
    }

    static RingsOff with(int kind, int size, int on) {
        RingsOff x = new RingsOff();
        x.bar(kind, size);
        x.put(0, on);
        return x;
    }

    static RingsOff stuck(int kind, int size, int on, int stuck) {
        RingsOff x = with(kind, size, on);
        x.stick(0, stuck);
        return x;
    }

    static int read(RingsOff x, String text) {
        for (int i = 0; i < text.length(); i++) {
            x.feed(text.charAt(i));
        }
        return x.bars();
    }

    /** An object by the tape, which must be right. */
    RingsOff told(String text) {
        RingsOff x = new RingsOff();
        due("statements of " + text, read(x, text), text.split(";").length);
        return x;
    }

    static RingsOff row(RingsOff x, int s, int sort, long... values) {
        x.row(s, sort, values.length);
        for (int i = 0; i < values.length; i++) {
            x.set(s, i, values[i]);
        }
        return x;
    }

    /** The same call on new objects of one bar each, for all sets that may be on. */
    static long[] ofAllSets(int kind, int size, ToLongFunction<RingsOff> call) {
        long[] answers = new long[1 << size];
        for (int set = 0; set < answers.length; set++) {
            answers[set] = call.applyAsLong(with(kind, size, set));
        }
        return answers;
    }
}
