/** The edges in the chapter "Units", and of the promises 10 to 12. */
public final class UnitsEdgesTest {
    private interface OfUnit {
        void call(Played x, int unit);
    }

    private static final OfUnit[] CALLS = {(x, u) -> x.unit(u, 0), (x, u) -> x.unit(u, 9),
        (x, u) -> x.reach(u), (x, u) -> x.cost(u, 31), (x, u) -> x.way(u, 31, 0), (x, u) -> x.move(u, 31)};

    public static void main(String[] args) {
        sixteenUnitsInAll();
        removedUnitsCount();
        unitsTakenBackDoNotCount();
        firstAndLastSide();
        leastAndGreatestStrength();
        leastAndGreatestMovement();
        noSuchUnit();
        removedUnitsAreNoUnits();
        numbersAreNotUsedAgain();
        noRoomOnWater();
        noRoomWithTheOtherSide();
        roomForThreeUnits();
        roomForTwelve();
        roomWhereUnitsHaveLeft();
        halvesRoundedUp();
        whatOfAUnit();
        canStillMoveAndAttack();
        noKnownUnits();
        Check.end();
    }

    /** "There are at most 16 units in all, numbered in the order in which they are added." */
    private static void sixteenUnitsInAll() {
        Played x = new Played();
        for (int unit = 0; unit < 16; unit++) {
            Check.same("add", x.add(unit % 2, 3 * unit, 1 + unit % 9, 1 + unit % 12), unit);
            Check.same("count(0)", x.count(0), unit + 1);
        }
        Check.refusedUnchanged(x, "a unit of side 0 more", IllegalStateException.class, () -> x.add(0, 62, 1, 1));
        Check.refusedUnchanged(x, "a unit of side 1 more", IllegalStateException.class, () -> x.add(1, 61, 1, 1));
        for (int unit = 0; unit < 16; unit++) {
            Check.same("unit(" + unit + ", 0)", x.unit(unit, 0), unit % 2);
            Check.same("unit(" + unit + ", 1)", x.unit(unit, 1), 3 * unit);
            Check.same("unit(" + unit + ", 2)", x.unit(unit, 2), 1 + unit % 9);
            Check.same("unit(" + unit + ", 3)", x.unit(unit, 3), 1 + unit % 12);
        }
        Check.same("start(0) returns 16", x.start(0), 16);
        Check.same("the first number after start", x.add(1, 62, 1, 1), 0);
    }

    /** "If there have been 16 units": those that were removed have been units. */
    private static void removedUnitsCount() {
        Played x = new Played();
        for (int unit = 0; unit < 16; unit++) {
            x.add(0, unit, 1, 1);
        }
        Check.same("endTurn() removes all", x.endTurn(), 16);
        Check.same("count(0)", x.count(0), 0);
        Check.same("start would return 0", x.save(), 0);
        Check.refusedUnchanged(x, "the 17th unit", IllegalStateException.class, () -> x.add(0, 62, 1, 1));
    }

    /** "If there have been 16 units": one that was taken back has not been. */
    private static void unitsTakenBackDoNotCount() {
        Played x = new Played();
        for (int unit = 0; unit < 15; unit++) {
            x.add(0, unit, 1, 1);
        }
        Check.same("the last one", x.add(1, 40, 1, 1), 15);
        x.undo();
        Check.same("another last one", x.add(1, 41, 1, 1), 15);
        Check.refused("one more", IllegalStateException.class, () -> x.add(1, 42, 1, 1));
    }

    /** "A side, 0 or 1". */
    private static void firstAndLastSide() {
        Played x = new Played();
        for (int side : new int[] {-1, 2, Integer.MIN_VALUE, Integer.MAX_VALUE}) {
            Check.refusedUnchanged(x, "add(" + side + ", ..)", IndexOutOfBoundsException.class,
                    () -> x.add(side, 20, 1, 1));
            Check.refused("known(" + side + ")", IndexOutOfBoundsException.class, () -> x.known(side));
            Check.refused("cells(" + side + ", 0)", IndexOutOfBoundsException.class, () -> x.cells(side, 0));
            Check.refused("supplyCost(" + side + ", 0)", IndexOutOfBoundsException.class,
                    () -> x.supplyCost(side, 0));
            Check.refused("account(" + side + ", 0)", IndexOutOfBoundsException.class, () -> x.account(side, 0));
        }
        Check.same("add(0, ..)", x.add(0, 20, 1, 1), 0);
        Check.same("add(1, ..)", x.add(1, 21, 1, 1), 1);
        Check.same("unit(0, 0)", x.unit(0, 0), 0);
        Check.same("unit(1, 0)", x.unit(1, 0), 1);
    }

    /** "A strength from 1 to 9". */
    private static void leastAndGreatestStrength() {
        Played x = new Played();
        for (int strength : new int[] {0, -1, 10, Integer.MIN_VALUE, Integer.MAX_VALUE}) {
            Check.refusedUnchanged(x, "the strength " + strength, IllegalArgumentException.class,
                    () -> x.add(0, 20, strength, 6));
        }
        Check.same("the strength 1", x.add(0, 20, 1, 6), 0);
        Check.same("the strength 9", x.add(0, 30, 9, 6), 1);
        Check.same("unit(0, 2)", x.unit(0, 2), 1);
        Check.same("unit(1, 2)", x.unit(1, 2), 9);
    }

    /** "A movement from 1 to 12". */
    private static void leastAndGreatestMovement() {
        Played x = new Played();
        for (int movement : new int[] {0, -1, 13, Integer.MIN_VALUE, Integer.MAX_VALUE}) {
            Check.refusedUnchanged(x, "the movement " + movement, IllegalArgumentException.class,
                    () -> x.add(1, 20, 5, movement));
        }
        Check.same("the movement 1", x.add(1, 20, 5, 1), 0);
        Check.same("the movement 12", x.add(1, 30, 5, 12), 1);
        Check.same("unit(0, 3)", x.unit(0, 3), 1);
        Check.same("unit(1, 3)", x.unit(1, 3), 12);
    }

    private static void refusedForAll(Played x, int... units) {
        for (int i = 0; i < CALLS.length; i++) {
            for (int unit : units) {
                int call = i;
                Check.refusedUnchanged(x, "call " + i + " of the unit " + unit, IndexOutOfBoundsException.class,
                        () -> CALLS[call].call(x, unit));
            }
        }
    }

    /** No unit at all, and the number behind the last one. */
    private static void noSuchUnit() {
        Played x = new Played();
        refusedForAll(x, 0, -1);
        x.add(0, 30, 1, 2);
        refusedForAll(x, 1, -1, 15, 16, 31, 32, Integer.MIN_VALUE, Integer.MAX_VALUE);
        for (OfUnit call : CALLS) {
            call.call(x, 0);
        }
        Played y = new Played();
        for (int unit = 0; unit < 16; unit++) {
            y.add(0, unit == 15 ? 30 : unit, 1, 2);
        }
        for (OfUnit call : CALLS) {
            call.call(y, 15);
        }
        refusedForAll(y, 16, -1);
    }

    /** "If there is no such unit": one that was removed. */
    private static void removedUnitsAreNoUnits() {
        Played x = new Played();
        x.add(0, 30, 1, 2);
        x.add(0, 30, 2, 2);
        Check.same("endTurn()", x.endTurn(), 1);
        Check.same("count(0)", x.count(0), 1);
        Check.same("cell(30, 3)", x.cell(30, 3), 0b10);
        Check.same("cell(30, 4)", x.cell(30, 4), 1);
        refusedForAll(x, 0);
        x.undo();
        Check.same("a removal that was taken back", x.unit(0, 2), 1);
    }

    /** "Its number is not used again." */
    private static void numbersAreNotUsedAgain() {
        Played x = new Played();
        x.add(0, 30, 1, 2);
        x.endTurn();
        Check.same("the next number", x.add(0, 30, 3, 2), 1);
        Check.refused("unit(0, 2)", IndexOutOfBoundsException.class, () -> x.unit(0, 2));
        Check.same("unit(1, 2)", x.unit(1, 2), 3);
    }

    /** "If [..] the cell is water". */
    private static void noRoomOnWater() {
        Played x = new Played();
        x.setTerrain(62, 5, false);
        Check.refusedUnchanged(x, "add on water", IllegalStateException.class, () -> x.add(0, 62, 1, 1));
        for (int terrain = 0; terrain <= 4; terrain++) {
            x.setTerrain(terrain, terrain, false);
            Check.same("add on the terrain " + terrain, x.add(0, terrain, 1, 1), terrain);
        }
    }

    /** "There are no units of the other side" on a cell with room. */
    private static void noRoomWithTheOtherSide() {
        for (int side = 0; side <= 1; side++) {
            Played x = new Played();
            x.add(side, 20, 1, 1);
            int other = 1 - side;
            Check.refusedUnchanged(x, "add beside the other side", IllegalStateException.class,
                    () -> x.add(other, 20, 1, 1));
            Check.same("add beside its own side", x.add(side, 20, 1, 1), 1);
            Check.same("add on the next cell", x.add(other, 21, 1, 1), 2);
        }
    }

    /** "At most two other units." */
    private static void roomForThreeUnits() {
        Played x = new Played();
        for (int unit = 0; unit < 3; unit++) {
            Check.same("add with " + unit + " others", x.add(1, 20, 1, 1), unit);
        }
        Check.refusedUnchanged(x, "add with three others", IllegalStateException.class, () -> x.add(1, 20, 1, 1));
        Check.same("add on the next cell", x.add(1, 21, 1, 1), 3);
    }

    private static void together(boolean isDue, int... strengths) {
        Played x = new Played();
        int last = strengths.length - 1;
        for (int i = 0; i < last; i++) {
            x.add(0, 20, strengths[i], 1);
        }
        if (isDue) {
            Check.same("add", x.add(0, 20, strengths[last], 1), last);
            Check.same("cell(20, 4)", x.cell(20, 4), 12);
        } else {
            Check.refusedUnchanged(x, "add of 13", IllegalStateException.class,
                    () -> x.add(0, 20, strengths[last], 1));
        }
    }

    /** "The strengths of all of them, with it, are at most 12." */
    private static void roomForTwelve() {
        together(true, 9, 3);
        together(false, 9, 4);
        together(true, 3, 9);
        together(false, 4, 9);
        together(true, 6, 6);
        together(false, 6, 7);
        together(true, 4, 4, 4);
        together(false, 4, 4, 5);
        together(true, 9, 2, 1);
        together(false, 9, 2, 2);
        together(true, 2, 1, 9);
        together(false, 2, 2, 9);
    }

    /** Only the units that are there, with the strengths that they have, need room. */
    private static void roomWhereUnitsHaveLeft() {
        Played x = new Played();
        x.add(0, 20, 9, 2);
        x.move(0, 21);
        Check.same("add where a unit has left", x.add(1, 20, 9, 2), 1);
        Check.same("endTurn()", x.endTurn(), 0);
        Check.same("add beside a strength of 8", x.add(0, 21, 4, 2), 2);
        Check.refused("add beside a strength of 12", IllegalStateException.class, () -> x.add(0, 21, 1, 2));
        Played y = new Played();
        y.add(0, 20, 1, 2);
        y.endTurn();
        Check.same("add where a unit was removed", y.add(1, 20, 9, 2), 1);
    }

    /** "Otherwise half of it, rounded up", for each strength and each movement. */
    private static void halvesRoundedUp() {
        int[] halves = {0, 1, 1, 2, 2, 3, 3, 4, 4, 5, 5, 6, 6};
        for (int number = 1; number <= 12; number++) {
            Played x = new Played();
            int strength = Math.min(number, 9);
            x.add(0, 20, strength, number);
            Check.same("the force of " + strength, x.unit(0, 5), halves[strength]);
            Check.same("the allowance of " + number, x.unit(0, 4), halves[number]);
            x.setSource(20, 0, true);
            Check.same("the force of " + strength + " with supply", x.unit(0, 5), strength);
            Check.same("the allowance of " + number + " with supply", x.unit(0, 4), number);
        }
    }

    /** "What: 0 its side; [..] 9: 1 if the other side sees its cell". */
    private static void whatOfAUnit() {
        Played x = Scene.busy();
        for (int what : new int[] {-1, 10, Integer.MIN_VALUE, Integer.MAX_VALUE}) {
            Check.refused("unit(0, " + what + ")", IllegalArgumentException.class, () -> x.unit(0, what));
        }
        Check.same("unit(0, 0)", x.unit(0, 0), 0);
        Check.same("unit(0, 9)", x.unit(0, 9), 0);
    }

    private static void can(Played x, String when, int unit, int move, int attack) {
        Check.same(when + ", unit(" + unit + ", 7)", x.unit(unit, 7), move);
        Check.same(when + ", unit(" + unit + ", 8)", x.unit(unit, 8), attack);
    }

    /** "1 if it is the turn of its side and it can still move", "and it can still attack". */
    private static void canStillMoveAndAttack() {
        Played x = new Played();
        x.add(0, 20, 9, 4);
        x.add(1, 22, 9, 4);
        can(x, "at first", 0, 1, 1);
        can(x, "at first", 1, 0, 0);
        x.move(0, 21);
        can(x, "after a move", 0, 0, 1);
        x.attack(21, 22);
        can(x, "after a move and an attack", 0, 0, 0);
        x.undo();
        x.undo();
        x.add(0, 21, 9, 4);
        x.attack(21, 22);
        can(x, "after an attack", 2, 0, 0);
        can(x, "after an attack of another", 0, 1, 1);
        can(x, "after being attacked", 1, 0, 0);
        x.endTurn();
        can(x, "on the turn of the other side", 0, 0, 0);
        can(x, "on its turn", 1, 1, 1);
        x.endTurn();
        can(x, "in the next round", 2, 1, 1);
    }

    /** No unit of the other side, none that is seen, and none that sees. */
    private static void noKnownUnits() {
        Played x = new Played();
        Check.same("known(0) without units", x.known(0), 0);
        Check.same("known(1) without units", x.known(1), 0);
        x.add(1, 20, 1, 1);
        Check.same("known(0) without units of its own", x.known(0), 0);
        Check.same("known(1) with its own", x.known(1), 0);
        Check.same("unit(0, 9)", x.unit(0, 9), 0);
        x.add(0, 25, 1, 1);
        Check.same("known(0) at a distance of 5", x.known(0), 0);
        Check.same("known(1) at a distance of 5", x.known(1), 0);
        x.add(0, 24, 1, 1);
        Check.same("known(0) at a distance of 4", x.known(0), 0b1);
        Check.same("known(1) at a distance of 4", x.known(1), 0b100);
        Check.same("unit(0, 9) at a distance of 4", x.unit(0, 9), 1);
        Check.same("unit(1, 9) at a distance of 5", x.unit(1, 9), 0);
    }
}
