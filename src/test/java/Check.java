/** Counts the answers that are not as due, and ends the test with exit code 1 if there are any. */
final class Check {
    private int wrong = 0;
    private int asked = 0;
    private String sentence = "";

    /** The sentence of the document that the answers from here on are held against. */
    void says(String words) {
        sentence = "\"" + words + "\": ";
    }

    void due(String call, long got, long want) {
        asked++;
        if (got != want) {
            wrong++;
            if (wrong <= 50) {
                System.out.println(sentence + call + " answered " + got + ", due is " + want);
            }
        }
    }

    void holds(String what, boolean is) {
        due(what, is ? 1 : 0, 1);
    }

    /** Whether each act counts, in the order in which they count, and that there are no more of them. */
    void verdicts(String name, PlainLibrary x, int... wants) {
        for (int i = 0; i < wants.length; i++) {
            due(name + ": counts(" + i + ")", x.counts(i), wants[i]);
        }
        due(name + ": counts behind the last", x.counts(wants.length), -1);
    }

    /** A new object into which acts are entered, each of which must be taken. */
    PlainLibrary with(long[]... acts) {
        PlainLibrary x = new PlainLibrary();
        for (int i = 0; i < acts.length; i++) {
            due("with: event", x.event((int) acts[i][0], acts[i][1], acts[i][2], acts[i][3]), i + 1);
        }
        return x;
    }

    static long[] act(long sort, long a, long b, long day) {
        return new long[] {sort, a, b, day};
    }

    boolean isClean() {
        return wrong == 0;
    }

    void end() {
        System.out.println(asked + " answers, " + wrong + " not as due");
        if (wrong != 0) {
            System.exit(1);
        }
    }
}
