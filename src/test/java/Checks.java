import java.util.NoSuchElementException;

/** What the tests share: a call as an object, its answer as a text, and the tale of wrong answers. */
final class Checks {
    private static int wrong = 0;
    private static int done = 0;
    private static int sentences = 0;
    private static String sentence = "";

    private Checks() {
    }

    interface Call {
        int answer();
    }

    interface Test {
        void look();
    }

    static final String ARGUMENT = "throws.IllegalArgumentException";
    static final String ELEMENT = "throws.NoSuchElementException";
    static final String ERROR = "throws.UnsupportedOperationException";
    static final String STATE = "throws.IllegalStateException";

    /** The answer of a call, or the exact exception that it throws. */
    static String told(Call call) {
        try {
            return Integer.toString(call.answer());
        } catch (IllegalArgumentException | NoSuchElementException | UnsupportedOperationException
                | IllegalStateException e) {
            return "throws." + e.getClass().getSimpleName();
        }
    }

    /** A test of one sentence of the document: each wrong answer in it is told with the promise and the sentence. */
    static void sentence(String promise, String words, Test test) {
        sentences++;
        sentence = promise + ", \"" + words + "\": ";
        int before = done;
        try {
            test.look();
        } catch (RuntimeException e) {
            same("the test", "ended by " + e, "ended well");
        }
        same("something was looked at", Boolean.toString(done > before), "true");
        sentence = "";
    }

    static void due(String what, Call call, int want) {
        due(what, call, Integer.toString(want));
    }

    static void due(String what, Call call, String want) {
        same(what, told(call), want);
    }

    static void same(String what, String got, String want) {
        done++;
        if (!got.equals(want)) {
            wrong++;
            if (wrong <= 50) {
                System.out.println(sentence + what + " answered " + got + ", due is " + want);
            }
        }
    }

    static int wrong() {
        return wrong;
    }

    static void end() {
        String of = sentences == 0 ? "" : " for " + sentences + " sentences";
        System.out.println(done + " answers looked at" + of + ", " + wrong + " wrong");
        if (wrong != 0) {
            System.exit(1);
        }
    }
}
