import java.util.ArrayList;
import java.util.List;
import java.util.NoSuchElementException;

/**
 * "A method that throws an exception [..] leaves the state unchanged", for each exception of each
 * method, in a game with much to lose; and "if several exceptions apply, the one named first is thrown".
 */
public final class RefusalsTest {
    private interface Call {
        Object of(Played x);
    }

    private record Refused(String name, Class<? extends RuntimeException> due, Call call) {
    }

    private static final Class<IndexOutOfBoundsException> BOUNDS = IndexOutOfBoundsException.class;
    private static final Class<IllegalArgumentException> ARGUMENT = IllegalArgumentException.class;
    private static final Class<IllegalStateException> STATE = IllegalStateException.class;
    private static final Class<NoSuchElementException> ELEMENT = NoSuchElementException.class;
    private static final List<Refused> ALL = new ArrayList<>();

    public static void main(String[] args) {
        addMap();
        addUnits();
        addMoves();
        addAttacks();
        addOthers();
        addOrders();
        for (Refused r : ALL) {
            Played x = rich();
            Check.refusedUnchanged(x, r.name(), r.due(), () -> r.call().of(x));
        }
        theGameIsRich();
        allInARow();
        refusedMoves();
        refusedMaps();
        questionsChangeNothing();
        Check.end();
    }

    /**
     * On the turn of side 0 in round 1, with rain: unit 0 on 20 has moved and attacked, unit 2 on 31 has
     * moved, unit 4 on 40 has done nothing, unit 3 was removed, units 1 and 5 of side 1 are on 21 and on
     * 42. Many changes, something else saved, three letters in the buffer, a report of three levels.
     */
    private static Played rich() {
        Played x = Scene.ofText("pwhsm~PWH/SM~msh~~w");
        x.add(0, 18, 9, 4);
        x.save();
        x.start(5);
        Scene.feed(x, "pwhsm~PWH");
        x.readMap();
        x.setSource(19, 0, true);
        x.setSource(21, 1, true);
        x.set(false, 4);
        x.add(0, 19, 9, 4);
        x.add(1, 21, 9, 6);
        x.add(0, 30, 5, 6);
        x.add(1, 62, 1, 6);
        x.add(0, 40, 4, 3);
        x.add(1, 42, 6, 6);
        x.endTurn();
        x.endTurn();
        x.set(true, 1);
        x.move(0, 20);
        x.move(2, 31);
        x.attack(20, 21);
        Scene.feed(x, "wh~");
        Check.refused("move(4, 62)", UnsupportedOperationException.class, () -> x.move(4, 62));
        return x;
    }

    private static void add(String name, Class<? extends RuntimeException> due, Call call) {
        ALL.add(new Refused(name, due, call));
    }

    private static void addMap() {
        add("setTerrain(63, 1, true)", BOUNDS, x -> x.setTerrain(63, 1, true));
        add("setTerrain(-1, 1, true)", BOUNDS, x -> x.setTerrain(-1, 1, true));
        add("setTerrain(50, 6, true)", ARGUMENT, x -> x.setTerrain(50, 6, true));
        add("setTerrain(50, -1, true)", ARGUMENT, x -> x.setTerrain(50, -1, true));
        add("setTerrain(50, 5, true)", ARGUMENT, x -> x.setTerrain(50, 5, true));
        add("setTerrain(42, 5, false)", STATE, x -> x.setTerrain(42, 5, false));
        add("setSource(63, 0, true)", BOUNDS, x -> x.setSource(63, 0, true));
        add("setSource(-1, 1, true)", BOUNDS, x -> x.setSource(-1, 1, true));
        add("setSource(19, 2, false)", BOUNDS, x -> x.setSource(19, 2, false));
        add("setSource(19, -1, false)", BOUNDS, x -> x.setSource(19, -1, false));
        add("set(true, 3)", ARGUMENT, x -> x.set(true, 3));
        add("set(true, -1)", ARGUMENT, x -> x.set(true, -1));
        add("set(false, 0)", ARGUMENT, x -> x.set(false, 0));
        add("set(false, 31)", ARGUMENT, x -> x.set(false, 31));
        add("cell(63, 0)", BOUNDS, x -> x.cell(63, 0));
        add("cell(20, 5)", ARGUMENT, x -> x.cell(20, 5));
        add("neighbor(20, 6)", BOUNDS, x -> x.neighbor(20, 6));
        add("neighbor(0, 1)", ELEMENT, x -> x.neighbor(0, 1));
        add("distance(20, 63)", BOUNDS, x -> x.distance(20, 63));
        add("count(8)", ARGUMENT, x -> x.count(8));
        add("isSeen(20, 63)", BOUNDS, x -> x.isSeen(20, 63));
        add("supplyCost(2, 20)", BOUNDS, x -> x.supplyCost(2, 20));
        add("supplyCost(1, 20)", ELEMENT, x -> x.supplyCost(1, 20));
        add("cells(2, 0)", BOUNDS, x -> x.cells(2, 0));
        add("cells(0, 5)", ARGUMENT, x -> x.cells(0, 5));
    }

    private static void addUnits() {
        add("add(2, 50, 1, 1)", BOUNDS, x -> x.add(2, 50, 1, 1));
        add("add(0, 63, 1, 1)", BOUNDS, x -> x.add(0, 63, 1, 1));
        add("add(0, 50, 0, 1)", ARGUMENT, x -> x.add(0, 50, 0, 1));
        add("add(0, 50, 10, 1)", ARGUMENT, x -> x.add(0, 50, 10, 1));
        add("add(0, 50, 1, 0)", ARGUMENT, x -> x.add(0, 50, 1, 0));
        add("add(0, 50, 1, 13)", ARGUMENT, x -> x.add(0, 50, 1, 13));
        add("add(0, 5, 1, 1) on water", STATE, x -> x.add(0, 5, 1, 1));
        add("add(0, 42, 1, 1) beside the other side", STATE, x -> x.add(0, 42, 1, 1));
        add("add(0, 20, 9, 1) beside too many", STATE, x -> x.add(0, 20, 9, 1));
        add("unit(3, 0) of a removed unit", BOUNDS, x -> x.unit(3, 0));
        add("unit(6, 0)", BOUNDS, x -> x.unit(6, 0));
        add("unit(0, 10)", ARGUMENT, x -> x.unit(0, 10));
        add("known(2)", BOUNDS, x -> x.known(2));
        add("reach(3)", BOUNDS, x -> x.reach(3));
        add("cost(3, 20)", BOUNDS, x -> x.cost(3, 20));
        add("cost(0, 63)", BOUNDS, x -> x.cost(0, 63));
        add("cost(0, 20)", ELEMENT, x -> x.cost(0, 20));
        add("cost(0, 5)", ELEMENT, x -> x.cost(0, 5));
        add("way(3, 20, 0)", BOUNDS, x -> x.way(3, 20, 0));
        add("way(0, 20, 0)", ELEMENT, x -> x.way(0, 20, 0));
        add("way(4, 41, 20)", ELEMENT, x -> x.way(4, 41, 20));
    }

    private static void addMoves() {
        add("move(3, 50) of a removed unit", BOUNDS, x -> x.move(3, 50));
        add("move(6, 50)", BOUNDS, x -> x.move(6, 50));
        add("move(4, 63)", BOUNDS, x -> x.move(4, 63));
        add("move(4, 40)", ARGUMENT, x -> x.move(4, 40));
        add("move(2, 32) after a move", STATE, x -> x.move(2, 32));
        add("move(0, 19) after an attack", STATE, x -> x.move(0, 19));
        add("move(5, 43) on the other turn", STATE, x -> x.move(5, 43));
    }

    private static void addAttacks() {
        for (boolean isDefense : new boolean[] {false, true}) {
            add("odds(63, 21)", BOUNDS, x -> x.odds(63, 21, isDefense));
            add("odds(20, 22)", ARGUMENT, x -> x.odds(20, 22, isDefense));
            add("odds(20, 21) after the attack", ELEMENT, x -> x.odds(20, 21, isDefense));
        }
        add("attack(63, 21)", BOUNDS, x -> x.attack(63, 21));
        add("attack(20, -1)", BOUNDS, x -> x.attack(20, -1));
        add("attack(20, 22)", ARGUMENT, x -> x.attack(20, 22));
        add("attack(42, 42)", ARGUMENT, x -> x.attack(42, 42));
        add("attack(20, 21) a second time", ELEMENT, x -> x.attack(20, 21));
        add("attack(40, 41) of no unit", ELEMENT, x -> x.attack(40, 41));
        add("attack(42, 41) by the other side", ELEMENT, x -> x.attack(42, 41));
        add("attack(41, 42) without a unit", ELEMENT, x -> x.attack(41, 42));
        add("attack(31, 40) of its own side", ELEMENT, x -> x.attack(31, 40));
    }

    private static void addOthers() {
        add("account(2, 0)", BOUNDS, x -> x.account(2, 0));
        add("account(0, 6)", ARGUMENT, x -> x.account(0, 6));
        add("report(3, 0)", ELEMENT, x -> x.report(3, 0));
        add("report(-1, 0)", ELEMENT, x -> x.report(-1, 0));
        add("report(2, 2)", ARGUMENT, x -> x.report(2, 2));
        add("text(69)", BOUNDS, x -> x.text(69));
        add("text(-1)", BOUNDS, x -> x.text(-1));
    }

    /** Each call has a reason for two exceptions of its method, or for more. */
    private static void addOrders() {
        add("no cell, no terrain", BOUNDS, x -> x.setTerrain(63, 6, false));
        add("no cell, water with a road", BOUNDS, x -> x.setTerrain(-1, 5, true));
        add("water with a road, a unit", ARGUMENT, x -> x.setTerrain(42, 5, true));
        add("no cell, no what", BOUNDS, x -> x.cell(63, 5));
        add("no neighbor, no direction", BOUNDS, x -> x.neighbor(0, -1));
        add("no side, no strength, no movement", BOUNDS, x -> x.add(2, 50, 0, 13));
        add("no cell, no strength", BOUNDS, x -> x.add(0, 63, 10, 1));
        add("no side, water", BOUNDS, x -> x.add(-1, 5, 1, 1));
        add("no strength, water", ARGUMENT, x -> x.add(0, 5, 0, 1));
        add("no movement, no room", ARGUMENT, x -> x.add(0, 42, 1, 13));
        add("no unit, no what", BOUNDS, x -> x.unit(3, 10));
        add("no side, no what of cells", BOUNDS, x -> x.cells(2, 5));
        add("no side, no supply cost", BOUNDS, x -> x.supplyCost(2, 5));
        add("no unit, no way", BOUNDS, x -> x.cost(6, 5));
        add("no unit, no step", BOUNDS, x -> x.way(6, 5, -1));
        add("no cell, no step", BOUNDS, x -> x.way(0, 63, -1));
        add("its own cell after a move", ARGUMENT, x -> x.move(2, 31));
        add("its own cell after an attack", ARGUMENT, x -> x.move(0, 20));
        add("its own cell on the other turn", ARGUMENT, x -> x.move(5, 42));
        add("no cell on the other turn", BOUNDS, x -> x.move(5, 63));
        add("no unit on the other turn", BOUNDS, x -> x.move(3, 62));
        add("out of reach after a move", STATE, x -> x.move(2, 62));
        add("water after an attack", STATE, x -> x.move(0, 5));
        add("out of reach on the other turn", STATE, x -> x.move(5, 5));
        add("no cell, no unit to attack with", BOUNDS, x -> x.attack(63, 62));
        add("no cell, no unit to attack", BOUNDS, x -> x.attack(20, 63));
        add("no neighbors, no unit that could attack", ARGUMENT, x -> x.attack(50, 52));
        add("no neighbors, no unit to attack", ARGUMENT, x -> x.attack(40, 40));
        add("no neighbors, odds of no units", ARGUMENT, x -> x.odds(50, 52, true));
        add("no cell, odds of no units", BOUNDS, x -> x.odds(50, 63, true));
        add("no side, no what of an account", BOUNDS, x -> x.account(2, 6));
        add("no level, no what", ELEMENT, x -> x.report(3, 2));
    }

    /** One after the other, on one object: none of them leaves anything behind. */
    private static void allInARow() {
        Played x = rich();
        List<String> before = Sight.of(x);
        for (Refused r : ALL) {
            Check.refused(r.name(), r.due(), () -> r.call().of(x));
        }
        Check.sameSight("after all refused calls", Sight.of(x), before);
        Check.same("undo() after them", x.undo(), 7);
        Check.same("unit(0, 8) before the attack", x.unit(0, 8), 1);
    }

    /** "This leaves a report", and nothing else. */
    private static void refusedMoves() {
        for (int cell : new int[] {5, 62, 21}) {
            Played x = rich();
            List<String> before = Sight.butReport(x);
            Check.refused("move(4, " + cell + ")", UnsupportedOperationException.class, () -> x.move(4, cell));
            Check.sameSight("after move(4, " + cell + ")", Sight.butReport(x), before);
            Check.same("report(0, 1)", x.report(0, 1), 4);
            Check.same("move(4, 49) afterwards", x.move(4, 49), 49);
        }
    }

    /** The buffer is empty after a refused map; all else is as it was. */
    private static void refusedMaps() {
        String water = "ppppppppp/".repeat(4) + "pppp~";
        Played x = rich();
        Check.same("readMap() of the three letters", x.readMap(), 3);
        List<String> before = Sight.butInput(x);
        Scene.feed(x, water);
        Check.refused("water under a unit", STATE, x::readMap);
        Check.sameSight("after water under a unit", Sight.butInput(x), before);
        Scene.feed(x, "hhx");
        Check.same("a map with an error", x.readMap(), -102);
        Check.sameSight("after a map with an error", Sight.butInput(x), before);
        Check.same("feed afterwards", x.feed('p'), 1);
    }

    /** The methods that only return something. */
    private static void questionsChangeNothing() {
        Played x = rich();
        List<String> before = Sight.of(x);
        for (int unit : new int[] {0, 1, 2, 4, 5}) {
            x.reach(unit);
            x.cost(unit, 0);
            x.way(unit, 62, 1);
            x.unit(unit, 4);
            x.unit(unit, 9);
        }
        for (int side = 0; side <= 1; side++) {
            for (int what = 0; what <= 4; what++) {
                x.cells(side, what);
            }
            x.known(side);
            x.account(side, 2);
        }
        x.supplyCost(0, 20);
        x.isSeen(20, 62);
        x.balance();
        x.text(3);
        x.report(1, 1);
        Check.sameSight("after questions", Sight.of(x), before);
    }

    /** What rich() says of its game. */
    private static void theGameIsRich() {
        Played x = rich();
        int[] places = {20, 21, 31, -1, 40, 42};
        int[] canMove = {0, 0, 0, -1, 1, 0};
        int[] canAttack = {0, 0, 1, -1, 1, 0};
        for (int unit : new int[] {0, 1, 2, 4, 5}) {
            Check.same("unit(" + unit + ", 1)", x.unit(unit, 1), places[unit]);
            Check.same("unit(" + unit + ", 7)", x.unit(unit, 7), canMove[unit]);
            Check.same("unit(" + unit + ", 8)", x.unit(unit, 8), canAttack[unit]);
        }
        Check.same("count(0)", x.count(0), 5);
        Check.same("count(1)", x.count(1), 1);
        Check.same("count(2)", x.count(2), 0);
        Check.same("count(7)", x.count(7), 1);
        Check.same("account(1, 5)", x.account(1, 5), 1);
        Check.same("report(2, 0)", x.report(2, 0), 5);
        Check.same("feed", x.feed('p'), 4);
        Check.same("undo()", x.undo(), 7);
        Check.same("restore()", x.restore(), 1);
    }
}
