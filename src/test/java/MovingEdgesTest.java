import java.util.List;
import java.util.NoSuchElementException;

/** The edges in the chapters "Moving" and "Reports", and of the promises 19 and 25. */
public final class MovingEdgesTest {
    public static void main(String[] args) {
        lastCellOfTheAllowance();
        onceInATurn();
        onceForEachUnit();
        notAfterAnAttack();
        onItsTurnAlone();
        unitsOfThisTurn();
        notToItsOwnCell();
        toTheOtherSideOfTheMap();
        ambushOnTheWay();
        ambushAtTheEnd();
        noAmbushBeforeIt();
        ambushesOfSeveralUnits();
        ambushOfSideOne();
        stopInAHiddenZone();
        stopInTheFirstZone();
        stopInTheFirstStep();
        ambushAfterTheFirstStep();
        endInAKnownZone();
        noStopInItsOwnZone();
        noReportAtFirst();
        reportOfNoWay();
        reportOfTheCost();
        reportOfTheAllowance();
        reportOfRoom();
        reportOfRoomOnEachTurn();
        costBeforeRoom();
        lastLevelAndWhat();
        reportsAreReplaced();
        otherRefusalsLeaveNoReport();
        refusalLeavesAllButTheReport();
        Check.end();
    }

    private static void cannotReach(Played x, int unit, int cell, int... dues) {
        String what = "move(" + unit + ", " + cell + ")";
        Check.refused(what, UnsupportedOperationException.class, () -> x.move(unit, cell));
        for (int i = 0; i < dues.length; i++) {
            Check.same("report(" + i / 2 + ", " + i % 2 + ") of " + what, x.report(i / 2, i % 2), dues[i]);
        }
        Check.refused("a level more of " + what, NoSuchElementException.class,
                () -> x.report(dues.length / 2, 0));
    }

    /** At most the allowance, one more is refused; with supply and without it. */
    private static void lastCellOfTheAllowance() {
        for (int movement = 1; movement <= 8; movement++) {
            int half = (movement + 1) / 2;
            Played x = Scene.corridor("ppppppppp");
            x.add(0, 18, 1, movement);
            if (half < 8) {
                cannotReach(x, 0, 18 + half + 1, 1, 0, 3, half + 1, 5, half);
            }
            Check.same("move of " + half, x.move(0, 18 + half), 18 + half);
            Played y = Scene.corridor("ppppppppp");
            y.setSource(18, 0, true);
            y.add(0, 18, 1, movement);
            if (movement < 8) {
                cannotReach(y, 0, 18 + movement + 1, 1, 0, 3, movement + 1);
            }
            Check.same("move of " + movement, y.move(0, 18 + movement), 18 + movement);
        }
    }

    /** "Each unit of the side can move once". */
    private static void onceInATurn() {
        Played x = new Played();
        x.add(0, 31, 9, 4);
        x.add(0, 31, 3, 4);
        Check.same("the first move", x.move(0, 32), 32);
        Check.refusedUnchanged(x, "the second move", IllegalStateException.class, () -> x.move(0, 33));
        Check.refusedUnchanged(x, "the way back", IllegalStateException.class, () -> x.move(0, 31));
        Check.same("the move of another one", x.move(1, 30), 30);
        x.endTurn();
        Check.refusedUnchanged(x, "a move on the other turn", IllegalStateException.class, () -> x.move(0, 33));
        x.endTurn();
        Check.same("the move of the next turn", x.move(0, 33), 33);
    }

    /** "Each unit [..] can move once": also after others have moved, in whatever order. */
    private static void onceForEachUnit() {
        Played x = new Played();
        for (int unit = 0; unit < 16; unit++) {
            x.add(0, unit, 1, 4);
        }
        int[] order = {15, 0, 7, 8, 3, 12, 1, 14, 5, 10, 2, 13, 4, 11, 6, 9};
        int moved = 0;
        for (int unit : order) {
            Check.same("the move of unit " + unit, x.move(unit, unit + 18), unit + 18);
            moved |= 1 << unit;
            for (int other = 0; other < order.length; other++) {
                Check.same("after the move of " + unit + ", unit(" + other + ", 7)", x.unit(other, 7),
                        1 - (moved >>> other & 1));
            }
        }
        for (int unit : order) {
            Check.refused("another move of unit " + unit, IllegalStateException.class,
                    () -> x.move(unit, unit));
        }
    }

    /** "It cannot move after it has attacked", but attack after it has moved. */
    private static void notAfterAnAttack() {
        Played x = new Played();
        x.add(0, 31, 9, 4);
        x.add(1, 33, 9, 4);
        x.add(0, 31, 3, 4);
        x.move(0, 32);
        Check.same("attack after a move", x.attack(32, 33), 0);
        x.undo();
        x.undo();
        x.add(1, 32, 9, 4);
        x.attack(31, 32);
        Check.refusedUnchanged(x, "a move after an attack", IllegalStateException.class, () -> x.move(0, 30));
        Check.refusedUnchanged(x, "a move of the other attacker", IllegalStateException.class,
                () -> x.move(2, 30));
        x.endTurn();
        x.endTurn();
        Check.same("a move in the next round", x.move(0, 30), 30);
    }

    /** "Or it is not the turn of its side". */
    private static void onItsTurnAlone() {
        Played x = new Played();
        x.add(0, 0, 3, 4);
        x.add(1, 62, 3, 4);
        Check.refusedUnchanged(x, "side 1 on the turn of 0", IllegalStateException.class, () -> x.move(1, 61));
        x.endTurn();
        Check.refusedUnchanged(x, "side 0 on the turn of 1", IllegalStateException.class, () -> x.move(0, 1));
        Check.same("side 1 on its turn", x.move(1, 61), 61);
    }

    /** "This is so for units that were added in this turn, too." */
    private static void unitsOfThisTurn() {
        Played x = new Played();
        x.endTurn();
        x.add(1, 31, 3, 4);
        x.add(0, 33, 3, 4);
        Check.same("a move of a new unit", x.move(0, 32), 32);
        Check.refused("its second move", IllegalStateException.class, () -> x.move(0, 31));
        Check.same("an attack of a new unit", x.attack(32, 33), 0);
        Check.refused("its second attack", NoSuchElementException.class, () -> x.attack(32, 33));
        x.add(1, 32, 3, 4);
        Check.same("an attack of a newer unit", x.attack(32, 33), 0);
        Check.refused("its move after that", IllegalStateException.class, () -> x.move(2, 31));
    }

    /** "If it is its own cell", whatever else. */
    private static void notToItsOwnCell() {
        Played x = new Played();
        x.add(0, 31, 3, 4);
        x.add(1, 62, 3, 4);
        Check.refusedUnchanged(x, "move(0, 31)", IllegalArgumentException.class, () -> x.move(0, 31));
        Check.refusedUnchanged(x, "move(1, 62)", IllegalArgumentException.class, () -> x.move(1, 62));
        x.move(0, 32);
        Check.refusedUnchanged(x, "move(0, 32)", IllegalArgumentException.class, () -> x.move(0, 32));
    }

    /** From corner to corner: 11 steps. */
    private static void toTheOtherSideOfTheMap() {
        Played x = new Played();
        x.setSource(0, 0, true);
        x.add(0, 0, 9, 11);
        Check.same("move(0, 62)", x.move(0, 62), 62);
        Played y = new Played();
        y.setSource(0, 0, true);
        y.add(0, 0, 9, 10);
        cannotReach(y, 0, 62, 1, 0, 3, 11);
    }

    private static void afterAnAmbush(Played x, int unit, int cell, int ambushes) {
        Check.same("unit(" + unit + ", 1)", x.unit(unit, 1), cell);
        Check.same("count(6)", x.count(6), ambushes);
        Check.same("it has moved", x.unit(unit, 7), 0);
        Check.same("it can attack", x.unit(unit, 8), 1);
        Check.refused("a second move", IllegalStateException.class, () -> x.move(unit, cell - 1));
    }

    /** "If there is a unit of the other side on the next cell, the unit stops, and it has moved". */
    private static void ambushOnTheWay() {
        for (int goal = 24; goal <= 26; goal++) {
            Played x = Scene.hiddenAt23("PPPPMPPPP");
            Check.same("way(0, " + goal + ", 5)", x.way(0, goal, 5), 23);
            Check.same("move(0, " + goal + ")", x.move(0, goal), 22);
            afterAnAmbush(x, 0, 22, 1);
        }
    }

    /** "If there is a unit of the other side on the next cell", which is the end of the way. */
    private static void ambushAtTheEnd() {
        Played x = Scene.hiddenAt23("PPPPMPPPP");
        Check.holds("reach(0)", x.reach(0), 23, true);
        Check.same("move(0, 23)", x.move(0, 23), 22);
        afterAnAmbush(x, 0, 22, 1);
        Check.same("undo()", x.undo(), 5);
        Check.same("count(6) after undo", x.count(6), 0);
        Check.same("unit(0, 7) after undo", x.unit(0, 7), 1);
    }

    /** The mountain beside the hidden unit is in no zone, and the end of the way. */
    private static void noAmbushBeforeIt() {
        Played x = Scene.hiddenAt23("PPPPMPPPP");
        Check.same("move(0, 22)", x.move(0, 22), 22);
        afterAnAmbush(x, 0, 22, 0);
    }

    /** "This is an ambush": one, however many units there are. */
    private static void ambushesOfSeveralUnits() {
        Played x = Scene.hiddenAt23("PPPPMPPPP");
        x.add(1, 23, 1, 1);
        x.add(1, 23, 1, 1);
        x.add(0, 18, 5, 12);
        Check.same("into three units", x.move(0, 24), 22);
        Check.same("one ambush", x.count(6), 1);
        x.undo();
        x.move(4, 20);
        Check.same("into three units behind its own", x.move(0, 24), 22);
        x.endTurn();
        x.endTurn();
        Check.same("ambushes so far", x.count(6), 1);
        Check.refused("a move beside known units", UnsupportedOperationException.class, () -> x.move(4, 24));
    }

    /** "A unit of the other side": side 1 is stopped by side 0. */
    private static void ambushOfSideOne() {
        Played x = Scene.hiddenAt23("PPPPMPPPP");
        x.setTerrain(22, 0, true);
        x.setTerrain(19, 4, true);
        x.setSource(26, 1, true);
        x.setTerrain(23, 0, true);
        x.endTurn();
        Check.same("the way of side 1", x.way(1, 18, 5), 18);
        Check.same("move(1, 18)", x.move(1, 18), 19);
        afterAnAmbush(x, 1, 19, 1);
        Check.same("unit(0, 1)", x.unit(0, 1), 18);
    }

    /** "If this is in the zone of the other side, by all its units, and not the end of the way, it stops." */
    private static void stopInAHiddenZone() {
        for (int goal = 22; goal <= 26; goal++) {
            Played x = Scene.hiddenAt23("PPPPPPPPP");
            Check.same("move(0, " + goal + ")", x.move(0, goal), 22);
            Check.same("no ambush", x.count(6), 0);
            Check.same("it has moved", x.unit(0, 7), 0);
            Check.same("it can attack", x.unit(0, 8), 1);
        }
        Played x = Scene.hiddenAt23("PPPPPPPPP");
        Check.same("move(0, 21) before the zone", x.move(0, 21), 21);
    }

    /** The hidden unit is beside the way: it stops where the zone begins. */
    private static void stopInTheFirstZone() {
        Played x = Scene.corridor("PPPPPPPPP");
        x.setTerrain(13, 0, false);
        x.set(true, 1);
        x.add(0, 18, 5, 12);
        x.add(1, 13, 5, 12);
        Check.same("move(0, 24)", x.move(0, 24), 22);
        Check.same("no ambush", x.count(6), 0);
        x.undo();
        x.setTerrain(22, 4, true);
        Check.same("a mountain is in no zone", x.move(0, 24), 23);
        x.undo();
        x.setTerrain(23, 4, true);
        Check.same("two mountains", x.move(0, 24), 24);
    }

    /** A wood before it hides the unit on the second cell, and is in its zone. */
    private static void stopInTheFirstStep() {
        for (int goal = 19; goal <= 22; goal++) {
            Played x = Scene.corridor("PWPPP");
            x.add(0, 18, 5, 12);
            x.add(1, 20, 5, 12);
            Check.same("known(0)", x.known(0), 0);
            Check.same("cost(0, " + goal + ")", x.cost(0, goal), goal - 18);
            Check.same("move(0, " + goal + ")", x.move(0, goal), 19);
            Check.same("no ambush", x.count(6), 0);
            Check.same("it has moved", x.unit(0, 7), 0);
            Check.same("known(0) then", x.known(0), 0b10);
        }
    }

    /** A mountain before it hides it as well, but is in no zone. */
    private static void ambushAfterTheFirstStep() {
        for (int goal = 20; goal <= 22; goal++) {
            Played x = Scene.corridor("PMPPP");
            x.add(0, 18, 5, 12);
            x.add(1, 20, 5, 12);
            Check.same("known(0)", x.known(0), 0);
            Check.same("move(0, " + goal + ")", x.move(0, goal), 19);
            afterAnAmbush(x, 0, 19, 1);
        }
    }

    /** "And not the end of the way": nothing stops it there, and it is no ambush. */
    private static void endInAKnownZone() {
        Played x = new Played();
        x.setSource(31, 0, true);
        x.add(0, 31, 5, 12);
        x.add(1, 34, 5, 12);
        Check.same("move(0, 33)", x.move(0, 33), 33);
        Check.same("no ambush", x.count(6), 0);
    }

    /** "In the zone of the other side": its own one stops nobody. */
    private static void noStopInItsOwnZone() {
        Played x = Scene.corridor("ppppppp");
        x.setTerrain(12, 0, false);
        x.add(0, 18, 5, 12);
        x.add(0, 12, 5, 12);
        Check.same("move(0, 24)", x.move(0, 24), 24);
    }

    /** "If there is no such level, or no report". */
    private static void noReportAtFirst() {
        Played x = new Played();
        for (int level : new int[] {0, 1, 2, 3, -1, Integer.MIN_VALUE, Integer.MAX_VALUE}) {
            for (int what : new int[] {0, 1, 2, -1}) {
                Check.refused("report(" + level + ", " + what + ")", NoSuchElementException.class,
                        () -> x.report(level, what));
            }
        }
    }

    /** "The code 2 and the cell if there is no way of such steps to it at all, whatever its cost". */
    private static void reportOfNoWay() {
        Played x = Scene.corridor("ppp~p");
        x.add(0, 18, 5, 1);
        cannotReach(x, 0, 0, 1, 0, 2, 0);
        cannotReach(x, 0, 62, 1, 0, 2, 62);
        cannotReach(x, 0, 21, 1, 0, 2, 21);
        cannotReach(x, 0, 22, 1, 0, 2, 22);
        x.setSource(18, 0, true);
        cannotReach(x, 0, 22, 1, 0, 2, 22);
        x.add(1, 20, 5, 1);
        cannotReach(x, 0, 20, 1, 0, 2, 20);
    }

    /** "Otherwise the code 3 and the least cost, if that is greater than the allowance". */
    private static void reportOfTheCost() {
        Played x = Scene.corridor("pwhsm");
        x.setSource(18, 0, true);
        x.add(0, 18, 5, 6);
        cannotReach(x, 0, 21, 1, 0, 3, 7);
        cannotReach(x, 0, 22, 1, 0, 3, 11);
        x.set(true, 1);
        cannotReach(x, 0, 21, 1, 0, 3, 11);
        x.set(true, 2);
        cannotReach(x, 0, 22, 1, 0, 3, 14);
        Check.same("move at the allowance", x.move(0, 20), 20);
    }

    /** "For the code 3, and a unit that is not supplied, level 2 has the code 5 and the allowance." */
    private static void reportOfTheAllowance() {
        for (int movement = 1; movement <= 12; movement++) {
            Played x = Scene.corridor("ppppppppp");
            x.set(true, 2);
            x.add(0, 18, 5, movement);
            cannotReach(x, 0, 26, 1, 0, 3, 16, 5, (movement + 1) / 2);
            x.setSource(18, 0, true);
            cannotReach(x, 0, 26, 1, 0, 3, 16);
        }
    }

    /** "The number of units of its own side on the cell, whatever their strength is." */
    private static void reportOfRoom() {
        Played x = Scene.corridor("pppp");
        x.add(0, 18, 5, 12);
        x.add(0, 19, 8, 1);
        cannotReach(x, 0, 19, 1, 0, 4, 1);
        x.add(0, 20, 7, 1);
        x.add(0, 20, 1, 1);
        cannotReach(x, 0, 20, 1, 0, 4, 2);
        for (int i = 0; i < 3; i++) {
            x.add(0, 21, 1, 1);
        }
        cannotReach(x, 0, 21, 1, 0, 4, 3);
        x.setSource(18, 0, true);
        cannotReach(x, 0, 21, 1, 0, 4, 3);
    }

    /** "Units of its own side", whichever it is, in whatever round and weather. */
    private static void reportOfRoomOnEachTurn() {
        for (int turn = 0; turn < 6; turn++) {
            Played x = new Played();
            for (int ended = 0; ended < turn; ended++) {
                x.endTurn();
            }
            x.set(true, turn / 2);
            x.add(turn % 2, 31, 5, 12);
            x.add(turn % 2, 32, 8, 1);
            x.add(1 - turn % 2, 62, 1, 1);
            cannotReach(x, 0, 32, 1, 0, 4, 1);
            x.add(turn % 2, 32, 4, 1);
            cannotReach(x, 0, 32, 1, 0, 4, 2);
        }
    }

    /** The cost comes first; at the allowance itself the room is the cause. */
    private static void costBeforeRoom() {
        Played x = Scene.corridor("pppp");
        x.setSource(18, 0, true);
        x.add(0, 18, 5, 2);
        x.add(0, 20, 9, 1);
        x.add(0, 21, 9, 1);
        cannotReach(x, 0, 20, 1, 0, 4, 1);
        cannotReach(x, 0, 21, 1, 0, 3, 3);
        x.setSource(18, 0, false);
        cannotReach(x, 0, 20, 1, 0, 3, 2, 5, 1);
    }

    /** "What: 0 the code, 1 the detail"; three levels at most. */
    private static void lastLevelAndWhat() {
        Played x = new Played();
        x.add(0, 0, 5, 1);
        cannotReach(x, 0, 62, 1, 0, 3, 11, 5, 1);
        for (int what : new int[] {-1, 2, Integer.MIN_VALUE, Integer.MAX_VALUE}) {
            for (int level = 0; level <= 2; level++) {
                int l = level;
                Check.refused("report(" + level + ", " + what + ")", IllegalArgumentException.class,
                        () -> x.report(l, what));
            }
            Check.refused("report(3, " + what + ")", NoSuchElementException.class, () -> x.report(3, what));
            Check.refused("report(-1, " + what + ")", NoSuchElementException.class, () -> x.report(-1, what));
        }
    }

    /** "A report is kept, which replaces the earlier one": the third level of the earlier one, too. */
    private static void reportsAreReplaced() {
        Played x = new Played();
        for (int i = 0; i < 16; i++) {
            x.add(0, i, 5, 1);
        }
        cannotReach(x, 15, 62, 1, 15, 3, Grid.distance(15, 62), 5, 1);
        x.setTerrain(62, 5, false);
        cannotReach(x, 14, 62, 1, 14, 2, 62);
        cannotReach(x, 0, 61, 1, 0, 3, Grid.distance(0, 61), 5, 1);
        x.setSource(0, 0, true);
        cannotReach(x, 0, 61, 1, 0, 3, Grid.distance(0, 61));
    }

    /** Only a cell that cannot be reached leaves a report. */
    private static void otherRefusalsLeaveNoReport() {
        Played x = new Played();
        x.add(0, 0, 5, 1);
        Check.refused("no such unit", IndexOutOfBoundsException.class, () -> x.move(1, 62));
        Check.refused("no such cell", IndexOutOfBoundsException.class, () -> x.move(0, 63));
        Check.refused("its own cell", IllegalArgumentException.class, () -> x.move(0, 0));
        x.endTurn();
        Check.refused("the other turn", IllegalStateException.class, () -> x.move(0, 62));
        Check.refused("report(0, 0)", NoSuchElementException.class, () -> x.report(0, 0));
        x.endTurn();
        cannotReach(x, 0, 62, 1, 0, 3, 11, 5, 1);
        List<String> report = Sight.report(x);
        x.move(0, 1);
        Check.refused("a second move", IllegalStateException.class, () -> x.move(0, 61));
        x.undo();
        x.endTurn();
        Check.same("the report stays", Sight.report(x), report);
    }

    /** "A method that throws an exception [..] leaves the state unchanged", but for this report. */
    private static void refusalLeavesAllButTheReport() {
        Played x = Scene.busy();
        x.save();
        x.feed('w');
        x.endTurn();
        List<String> before = Sight.butReport(x);
        cannotReach(x, 0, 62, 1, 0, 3, x.cost(0, 62));
        Check.sameSight("after a refused move", Sight.butReport(x), before);
        cannotReach(x, 0, 1, 1, 0, 2, 1);
        Check.sameSight("after a move without a way", Sight.butReport(x), before);
        Check.same("move after refused ones", x.move(0, 20), 20);
    }
}
