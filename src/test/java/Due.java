import java.util.function.IntToLongFunction;

/** Compares answers with those that are due; ends the test with exit code 1 if one was otherwise. */
final class Due {
    /** Numbers around which what is allowed ends, by one call or another, and those far off. */
    private static final int[] PROBES = {Integer.MIN_VALUE, Integer.MIN_VALUE + 1, -1000, -4, -3, -2, -1, 0, 1, 2, 3,
        4, 5, 6, 7, 8, 9, 11, 12, 13, 38, 39, 40, 41, 42, 59, 60, 61, 62, 98, 99, 100, 101, 126, 127, 128, 129, 255,
        256, 998, 999, 1000, 1001, 65536, Integer.MAX_VALUE - 1, Integer.MAX_VALUE};

    private final String test;
    private int promise;
    private String sentence = "";
    private int asked;
    private int askedOfSentence = 1;
    private int wrong;

    Due(String test) {
        this.test = test;
    }

    void promise(int number) {
        sentence(number, "");
    }

    /** What follows tests these words of a promise's section; of 0 those under "Terms". */
    void sentence(int number, String words) {
        isSentenceTested();
        promise = number;
        sentence = words.isEmpty() ? "" : " \"" + words + "\"";
        askedOfSentence = 0;
    }

    private void isSentenceTested() {
        if (askedOfSentence == 0) {
            isTrue("something is asked", false);
        }
    }

    void is(String call, long got, long want) {
        asked++;
        askedOfSentence++;
        if (got != want) {
            wrong++;
            System.out.println("promise " + promise + sentence + ": " + call + " answered " + got
                + ", due is " + want);
        }
    }

    void isTrue(String what, boolean so) {
        is(what, so ? 1 : 0, 1);
    }

    /** A call is refused by all numbers but those from least to most, and by none of these. */
    void only(String call, int least, int most, long refusal, IntToLongFunction answer) {
        for (int probe : PROBES) {
            boolean isAllowed = probe >= least && probe <= most;
            long got = answer.applyAsLong(probe);
            isTrue(call + " by " + probe + " is " + (isAllowed ? "done: " : "refused: ") + got,
                (got == refusal) != isAllowed);
        }
    }

    void end() {
        isSentenceTested();
        System.out.println(test + ": " + asked + " answers, " + wrong + " not as due");
        if (wrong != 0 || asked == 0) {
            System.exit(1);
        }
    }
}
