import java.util.concurrent.Callable;

/** Counts and prints the answers that are not the ones that are due. */
final class Check {
    private static int wrong = 0;
    private static int seen = 0;

    private Check() {
    }

    /** One boundary case of the document by itself: it must look at something, and nothing else may stop it. */
    static void edge(String words, Runnable test) {
        int wrongBefore = wrong;
        int seenBefore = seen;
        try {
            test.run();
        } catch (Throwable thrown) {
            wrong++;
            System.out.println("the test was stopped by " + thrown);
        }
        if (seen == seenBefore) {
            wrong++;
            System.out.println("the test looked at nothing");
        }
        if (wrong > wrongBefore) {
            System.out.println("NOT AS DUE: " + words);
        }
    }

    static void same(String what, Object got, Object want) {
        seen++;
        if (!got.equals(want)) {
            wrong++;
            System.out.println(what + " answered " + got + ", due is " + want);
        }
    }

    static void same(String what, long got, long want) {
        same(what, (Object) got, (Object) want);
    }

    static void yes(String what, boolean got) {
        same(what, (Object) got, (Object) true);
    }

    static void no(String what, boolean got) {
        same(what, (Object) got, (Object) false);
    }

    /** That a call throws just this class, not one below it. */
    static void refused(String what, Class<?> due, Callable<Object> call) {
        same(what, answer(call), "throws." + due.getSimpleName());
    }

    /** A call without an answer, as one that answers "done". */
    static Callable<Object> done(Runnable call) {
        return () -> {
            call.run();
            return "done";
        };
    }

    /** What a call answers, or throws., and the name of what it throws. */
    static String answer(Callable<Object> call) {
        try {
            return String.valueOf(call.call());
        } catch (Throwable thrown) {
            return "throws." + thrown.getClass().getSimpleName();
        }
    }

    static void close() {
        System.out.println(wrong == 0 ? seen + " answers are as due" : wrong + " answers are not as due");
        if (wrong != 0) {
            System.exit(1);
        }
    }
}
