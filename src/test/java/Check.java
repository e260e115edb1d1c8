import java.util.Objects;

/** What the tests compare with, and how they end. */
final class Check {
    private static int wrong = 0;

    private Check() {
    }

    static void same(String what, Object got, Object due) {
        if (!Objects.equals(got, due)) {
            wrong++;
            System.out.println(what + " answered " + got + ", due is " + due);
        }
    }

    /** The exact class counts: an exception of the machine is a class below the promised one. */
    static void refused(String what, Class<? extends RuntimeException> due, Runnable call) {
        Class<?> got = null;
        try {
            call.run();
        } catch (RuntimeException e) {
            got = e.getClass();
        }
        same(what + " throws", got, due);
    }

    /** A call that is refused, and changes nothing that can be seen. */
    static void refusedUnchanged(HexCampaign x, String what, Class<? extends RuntimeException> due,
            Runnable call) {
        String before = Sight.of(x);
        refused(what, due, call);
        same(what + " leaves the state", Sight.of(x), before);
    }

    static void end() {
        if (wrong != 0) {
            System.out.println(wrong + " answers are not as due");
            System.exit(1);
        }
    }
}
