/** Counts the answers that are not as due, and ends the test with exit code 1 if there was one. */
final class Check {
    interface Call {
        Object answer();
    }

    private final String name;
    private String sentence = "";
    private int wrong;
    private int looked;

    Check(String name) {
        this.name = name;
    }

    /** The words of the document that the answers from here on are held against: promise, colon, words. */
    void sentence(String words) {
        sentence = " [" + words + "]";
    }

    void due(String what, Object got, Object want) {
        looked++;
        if (!String.valueOf(got).equals(String.valueOf(want))) {
            wrong++;
            System.out.println(name + sentence + ": " + what + " answered " + got + ", due is " + want);
        }
    }

    void refused(String what, Class<? extends RuntimeException> want, Call call) {
        due(what, answerOf(call), "throws." + want.getSimpleName());
    }

    /** The answer as a text, or the name of what is thrown instead. */
    static String answerOf(Call call) {
        try {
            return String.valueOf(call.answer());
        } catch (RuntimeException thrown) {
            return "throws." + thrown.getClass().getSimpleName();
        }
    }

    boolean isRight() {
        return wrong == 0;
    }

    void end() {
        System.out.println(name + ": " + looked + " answers looked at, " + wrong + " wrong");
        if (wrong != 0) {
            System.exit(1);
        }
    }
}
