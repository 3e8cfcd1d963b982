/** What the tests share: they note each answer that is not the one that is due. */
final class Checks {
    interface Call {
        Object answer();
    }

    private int checked = 0;
    private int wrong = 0;

    /** Answers what a call answers, or "throws." and the simple name of exactly what it throws. */
    static String told(Call call) {
        try {
            return String.valueOf(call.answer());
        } catch (RuntimeException e) {
            return "throws." + e.getClass().getSimpleName();
        }
    }

    void due(String what, Object due, Call call) {
        String got = told(call);
        checked++;
        if (!got.equals(String.valueOf(due))) {
            wrong++;
            System.out.println(what + " answered " + got + ", due is " + due);
        }
    }

    void outOfRange(String what, Call call) {
        due(what, "throws.IllegalArgumentException", call);
    }

    void notPossible(String what, Call call) {
        due(what, "throws.IllegalStateException", call);
    }

    void notThere(String what, Call call) {
        due(what, "throws.NoSuchElementException", call);
    }

    void noSuchIndex(String what, Call call) {
        due(what, "throws.IndexOutOfBoundsException", call);
    }

    int wrong() {
        return wrong;
    }

    int checked() {
        return checked;
    }

    /** Ends the program with exit code 1 if an answer was wrong, or if nothing was checked. */
    void end(String name) {
        System.out.println(name + ": " + checked + " answers checked, " + wrong + " wrong");
        if (wrong != 0 || checked == 0) {
            System.exit(1);
        }
    }
}
