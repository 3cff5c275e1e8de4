/** Compares answers with those that are due, and counts what is wrong. */
final class Due {
    static final int INDEX = 1, ARGUMENT = 2, STATE = 3;

    private static int wrong = 0;
    private static int compared = 0;
    private static String part = "";

    private Due() {
    }

    interface Call {
        long answer();
    }

    interface Act {
        void run();
    }

    static void part(String name) {
        part = name;
    }

    static void is(String what, long due, long answer) {
        compared++;
        if (due != answer) {
            wrong++;
            System.out.println(part + ": " + what + " answered " + answer + ", due is " + due);
        }
    }

    static void same(String what, String due, String answer) {
        compared++;
        if (!due.equals(answer)) {
            wrong++;
            System.out.println(part + ": " + what + " is\n  " + answer + "\n  due is\n  " + due);
        }
    }

    static void isTrue(String what, boolean is) {
        is(what, 1, is ? 1 : 0);
    }

    static void throwsIt(String what, int due, Act call) {
        is(what + " throws", due, thrown(call));
    }

    /** 0 for nothing, INDEX, ARGUMENT, STATE, or 9 for another one or a subclass, as the machine throws. */
    static int thrown(Act call) {
        try {
            call.run();
        } catch (RuntimeException e) {
            if (e.getClass() == IndexOutOfBoundsException.class) {
                return INDEX;
            }
            if (e.getClass() == IllegalArgumentException.class) {
                return ARGUMENT;
            }
            return e.getClass() == IllegalStateException.class ? STATE : 9;
        }
        return 0;
    }

    static int compared() {
        return compared;
    }

    static boolean isAllRight() {
        return wrong == 0;
    }

    static void end() {
        System.out.println(wrong == 0 ? compared + " answers are as due" : wrong + " answers are not as due");
        if (wrong != 0) {
            System.exit(1);
        }
    }
}
