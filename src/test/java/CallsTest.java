import java.util.NoSuchElementException;

/** "An object is used for at most 512 calls after it has been made": the last one of them is answered, too. */
public final class CallsTest {
    private interface Call {
        Object of(Played x);
    }

    public static void main(String[] args) {
        the512thCall("set", x -> x.set(false, 1 + x.calls() % 30), x -> x.undo(), 7);
        the512thCall("set", x -> x.set(false, 1 + x.calls() % 30), x -> x.count(4), 1 + 510 % 30);
        the512thCall("endTurn", Played::endTurn, x -> x.count(1), 255);
        the512thCall("start", x -> x.start(x.calls()), x -> x.add(1, 62, 9, 12), 0);
        the512thCall("save", Played::save, Played::restore, 0);
        the512thCall("feed", x -> x.calls() < 80 ? x.feed('p') : x.calls(), x -> x.feed('p'), null);
        the512thCall("readMap", x -> x.calls() % 2 == 0 ? x.feed('w') : x.readMap(), Played::readMap, 1);
        the512thCall("add", x -> x.calls() % 2 == 0 ? x.add(0, 31, 9, 12) : x.undo(), x -> x.add(0, 31, 9, 1), null);
        theLastMove();
        theLastAttack();
        Check.end();
    }

    /** Makes 511 calls of one kind and then another one; null is a refusal. */
    private static void the512thCall(String name, Call call, Call last, Object due) {
        Played x = new Played();
        while (x.calls() < Played.MOST_CALLS - 1) {
            int before = x.calls();
            call.of(x);
            if (x.calls() == before) {
                x.count(0);
            }
        }
        Object got = null;
        try {
            got = last.of(x);
        } catch (IllegalStateException e) {
            got = null;
        }
        Check.same("the last call after many of " + name, got, due);
    }

    /** A unit goes to and fro, once in each round. */
    private static void theLastMove() {
        Played x = new Played();
        x.setSource(31, 0, true);
        x.add(0, 31, 9, 2);
        for (int round = 0; round < 169; round++) {
            int goal = round % 2 == 0 ? 32 : 31;
            Check.same("the move of round " + round, x.move(0, goal), goal);
            x.endTurn();
            x.endTurn();
        }
        Check.refused("a way that is too long", UnsupportedOperationException.class, () -> x.move(0, 62));
        Check.same("report(1, 0)", x.report(1, 0), 3);
        Check.same("the last call", x.undo(), 7);
        Check.same("calls", x.calls(), Played.MOST_CALLS);
    }

    private static void theLastAttack() {
        Played x = new Played();
        x.add(0, 31, 9, 2);
        x.add(1, 32, 9, 2);
        while (x.calls() < Played.MOST_CALLS - 2) {
            x.attack(31, 32);
            x.undo();
        }
        Check.same("attack(31, 32)", x.attack(31, 32), 0);
        Check.refused("the last call", NoSuchElementException.class, () -> x.attack(31, 32));
        Check.same("calls", x.calls(), Played.MOST_CALLS);
    }
}
