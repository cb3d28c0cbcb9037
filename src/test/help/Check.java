import java.util.function.Supplier;
import java.util.function.ToIntFunction;

/** What a test of one sentence of the document needs: it says the sentence if an answer is not as it asks. */
final class Check {
    static final int BAD = -1;
    static final int STATE = -2;
    static final int FULL = -3;
    static final int NONE = -9;
    static final int NO = -1000000;
    static final int NOT = -2000000;
    static final int MIN = Integer.MIN_VALUE;
    static final int MAX = Integer.MAX_VALUE;

    private static String sentence = "";
    private static boolean said = false;
    private static int sentences = 0;
    private static int answers = 0;
    private static int wrong = 0;

    private Check() {
    }

    /** One sentence of the document, by its words, and what would not stand if it were broken. */
    static void sentence(String words, Runnable test) {
        sentence = words;
        said = false;
        sentences++;
        int before = answers;
        test.run();
        if (answers == before) {
            fail("has no answer to look at");
        }
    }

    static void due(String call, Object got, Object want) {
        answers++;
        if (!got.equals(want)) {
            fail(call + " answered " + got + ", due is " + want);
        }
    }

    private static void fail(String how) {
        wrong++;
        if (!said) {
            System.out.println("does not hold: " + sentence);
            said = true;
        }
        System.out.println("  " + how);
    }

    /** That a call answers so and nothing has changed behind it: a twin that never had the call looks the same. */
    static void idle(String call, Supplier<Used> made, ToIntFunction<Used> called, int want) {
        Used x = made.get();
        due(call, called.applyAsInt(x), want);
        due("all that can be seen behind " + call, x.everything(), made.get().everything());
    }

    static void end() {
        System.out.println(sentences + " sentences, " + answers + " answers, " + wrong + " not as due");
        if (wrong != 0) {
            System.exit(1);
        }
    }
}
