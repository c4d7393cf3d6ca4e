import java.util.concurrent.Callable;

/** Compares answers with those that are due, and counts both kinds, sentence by sentence of the document. */
final class Due {
    private int right;
    private int wrong;
    private int sentences;
    private String sentence = "";
    private int before;

    /** What is compared from now on is due by this sentence. */
    void about(String words) {
        closeSentence();
        sentence = words;
        before = right + wrong;
        sentences++;
    }

    /** A sentence of which nothing was compared has no test. */
    private void closeSentence() {
        if (sentences > 0 && right + wrong == before) {
            compare("answers compared", "some", "none");
        }
    }

    /** The call answers the number, or the truth, that is due. */
    void is(String call, Object want, Callable<?> body) {
        compare(call, number(want), outcome(body));
    }

    /** The call throws just the exception that is due: a class below it is not it. */
    void fails(String call, Class<? extends RuntimeException> want, Callable<?> body) {
        compare(call, want, outcome(body));
    }

    void compare(String call, Object want, Object got) {
        if (want.equals(got)) {
            right++;
        } else {
            wrong++;
            System.out.println("\"" + sentence + "\" " + call + ": " + got + ", due is " + want);
        }
    }

    /** What a call comes to: its answer, or the class of what it throws. */
    static Object outcome(Callable<?> body) {
        try {
            return number(body.call());
        } catch (Exception thrown) {
            return thrown.getClass();
        }
    }

    private static Object number(Object answer) {
        return answer instanceof Integer ? (Object) (long) (Integer) answer : answer;
    }

    void end() {
        closeSentence();
        System.out.println(sentences + " sentences: " + right + " answers as due, " + wrong + " not");
        if (wrong != 0 || right == 0) {
            System.exit(1);
        }
    }
}
