/** Compares answers with those that are due, prints the wrong ones and counts them. */
final class Check {
    private int wrong = 0;
    private int compared = 0;

    interface Call {
        Object answer();
    }

    /** What a call answers, or which exception it throws, as a text. */
    static String answerOf(Call call) {
        try {
            return String.valueOf(call.answer());
        } catch (RuntimeException e) {
            return "throws " + e.getClass().getName();
        }
    }

    void due(String name, Object want, Call call) {
        same(name, answerOf(call), String.valueOf(want));
    }

    void illegalArgument(String name, Call call) {
        due(name, "throws java.lang.IllegalArgumentException", call);
    }

    void illegalState(String name, Call call) {
        due(name, "throws java.lang.IllegalStateException", call);
    }

    void outOfBounds(String name, Call call) {
        due(name, "throws java.lang.IndexOutOfBoundsException", call);
    }

    void noSuchElement(String name, Call call) {
        due(name, "throws java.util.NoSuchElementException", call);
    }

    void same(String name, String got, String want) {
        compared++;
        if (!got.equals(want)) {
            wrong++;
            System.out.println(name + ": answered " + got + ", due is " + want);
        }
    }

    void finish(String test) {
        System.out.println(test + ": " + compared + " answers compared, " + wrong + " wrong");
        if (wrong > 0 || compared == 0) {
            System.exit(1);
        }
    }
}
