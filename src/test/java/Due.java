import java.util.function.IntUnaryOperator;

/** Compares what calls answered with what is due, and tells what is wrong. */
final class Due {
    interface Call {
        long answer();
    }

    private static int checks = 0;
    private static int wrong = 0;

    private Due() {
    }

    static void same(String call, long got, long want) {
        checks++;
        if (got != want) {
            tell(call + " answered " + got + ", due is " + want);
        }
    }

    static void sameDouble(String call, double got, double want) {
        checks++;
        if (got != want) {
            tell(call + " answered " + got + ", due is " + want);
        }
    }

    static void refuses(String what, Class<? extends RuntimeException> want, Call call) {
        checks++;
        String due = ", due is throws." + want.getSimpleName();
        try {
            tell(what + " answered " + call.answer() + due);
        } catch (RuntimeException thrown) {
            if (thrown.getClass() != want || !isThrownByThePost(thrown)) {
                tell(what + " answered throws." + thrown.getClass().getSimpleName()
                        + (isThrownByThePost(thrown) ? "" : " from elsewhere") + due);
            }
        }
    }

    /** Whether the class threw it itself: what a list or the machine throws must not come out of it. */
    static boolean isThrownByThePost(RuntimeException thrown) {
        StackTraceElement[] rows = thrown.getStackTrace();
        return rows.length > 0 && rows[0].getClassName().startsWith("TubePost");
    }

    static void index(String what, Call call) {
        refuses(what, IndexOutOfBoundsException.class, call);
    }

    static void argument(String what, Call call) {
        refuses(what, IllegalArgumentException.class, call);
    }

    static void state(String what, Call call) {
        refuses(what, IllegalStateException.class, call);
    }

    /** Refuses the numbers just outside of least to most, and those far out. */
    static void refusesOutside(String what, int least, int most, Class<? extends RuntimeException> want,
            IntUnaryOperator call) {
        for (int number : new int[] {Integer.MIN_VALUE, least - 1, most + 1, Integer.MAX_VALUE}) {
            refuses(what + " with " + number, want, () -> call.applyAsInt(number));
        }
    }

    static void indexOutside(String what, int least, int most, IntUnaryOperator call) {
        refusesOutside(what, least, most, IndexOutOfBoundsException.class, call);
    }

    static void argumentOutside(String what, int least, int most, IntUnaryOperator call) {
        refusesOutside(what, least, most, IllegalArgumentException.class, call);
    }

    /** What a call tells for the whats 0, 1, 2 .., and that it tells nothing outside of them. */
    static void tells(String what, IntUnaryOperator call, int... due) {
        for (int i = 0; i < due.length; i++) {
            same(what + ", what " + i, call.applyAsInt(i), due[i]);
        }
        indexOutside(what + ", what", 0, due.length - 1, call);
    }

    static void tell(String fault) {
        wrong++;
        if (wrong <= 20) {
            System.out.println(fault);
        }
    }

    static void close(String test) {
        System.out.println(test + ": " + checks + " answers looked at, " + wrong + " wrong");
        if (wrong != 0 || checks == 0) {
            System.exit(1);
        }
    }
}
