import java.util.List;
import java.util.Objects;

/** What the tests compare with, and how they end. */
final class Check {
    private static int wrong = 0;

    private Check() {
    }

    static void same(String what, Object got, Object due) {
        if (!Objects.equals(got, due)) {
            wrong++;
            System.out.println(what + " answered " + got + ", due is " + due);
        }
    }

    /** The exact class counts: an exception of the machine is a class below the promised one. */
    static void refused(String what, Class<? extends RuntimeException> due, Runnable call) {
        Class<?> got = null;
        try {
            call.run();
        } catch (RuntimeException e) {
            got = e.getClass();
        }
        same(what + " throws", got, due);
    }

    /** A call that is refused, and changes nothing that can be asked. */
    static void refusedUnchanged(Played x, String what, Class<? extends RuntimeException> due,
            Runnable call) {
        List<String> before = x.sight();
        refused(what, due, call);
        sameSight("after " + what, x.sight(), before);
    }

    /** Tells the first line that is not as due. */
    static void sameSight(String what, List<String> got, List<String> due) {
        for (int i = 0; i < Math.max(got.size(), due.size()); i++) {
            String one = i < got.size() ? got.get(i) : "nothing";
            String other = i < due.size() ? due.get(i) : "nothing";
            if (!one.equals(other)) {
                same(what + ", a line of the state", one, other);
                return;
            }
        }
    }

    /** A bit of a set of cells. */
    static void holds(String what, long set, int cell, boolean due) {
        same(what + " with the cell " + cell, (set >>> cell & 1) != 0, due);
    }

    /** The strengths of the units from 0 on, 0 for one that was removed. */
    static void strengths(Played x, int... dues) {
        for (int unit = 0; unit < dues.length; unit++) {
            int u = unit;
            if (dues[unit] == 0) {
                refused("unit(" + unit + ", 2)", IndexOutOfBoundsException.class, () -> x.unit(u, 2));
            } else {
                same("unit(" + unit + ", 2)", x.unit(unit, 2), dues[unit]);
            }
        }
    }

    static void end() {
        if (wrong != 0) {
            System.out.println(wrong + " answers are not as due");
            System.exit(1);
        }
    }
}
