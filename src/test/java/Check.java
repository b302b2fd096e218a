import java.util.NoSuchElementException;

/** Counts answers that are not as due. */
final class Check {
    private static int wrong;

    interface Call {
        long answer();
    }

    private Check() {
    }

    static void due(String what, long got, long want) {
        if (got != want) {
            wrong++;
            System.out.println(what + " answered " + got + ", due is " + want);
        }
    }

    static void answers(String what, long want, Call call) {
        String thrown = thrownBy(call);
        if (thrown.isEmpty()) {
            due(what, last, want);
        } else {
            wrong++;
            System.out.println(what + " threw " + thrown + ", due is " + want);
        }
    }

    static void bad(String what, Call call) {
        mustThrow(what, call, IllegalArgumentException.class);
    }

    static void missing(String what, Call call) {
        mustThrow(what, call, NoSuchElementException.class);
    }

    static void refused(String what, Call call) {
        mustThrow(what, call, IllegalStateException.class);
    }

    private static long last;

    private static String thrownBy(Call call) {
        try {
            last = call.answer();
            return "";
        } catch (RuntimeException e) {
            return e.getClass().getName();
        }
    }

    private static void mustThrow(String what, Call call, Class<?> due) {
        String thrown = thrownBy(call);
        if (!thrown.equals(due.getName())) {
            wrong++;
            System.out.println(what + (thrown.isEmpty() ? " answered " + last : " threw " + thrown)
                    + ", due is " + due.getName());
        }
    }

    /** An answer, or what stands for the exception thrown: for long runs of calls of all kinds. */
    static long told(Call call) {
        String thrown = thrownBy(call);
        if (thrown.isEmpty()) {
            return last;
        }
        if (thrown.equals(IllegalArgumentException.class.getName())) {
            return -1000001;
        }
        if (thrown.equals(NoSuchElementException.class.getName())) {
            return -1000002;
        }
        if (thrown.equals(IllegalStateException.class.getName())) {
            return -1000003;
        }
        wrong++;
        System.out.println("threw " + thrown);
        return -1000004;
    }

    static void end() {
        if (wrong > 0) {
            System.out.println(wrong + " answers are not as due");
            System.exit(1);
        }
    }
}
