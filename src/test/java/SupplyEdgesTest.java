import java.util.NoSuchElementException;

/** The edges in the chapter "Supply", and of the promises 13, 15 and 24. */
public final class SupplyEdgesTest {
    public static void main(String[] args) {
        noSources();
        sourcesOfTheOtherSide();
        sourcesCostNothing();
        closedByWater();
        closedByUnitsOfTheOtherSide();
        closedByZones();
        closedByHiddenUnits();
        mountainsBesideTheOtherSide();
        openByUnitsOfItsOwn();
        openByEachUnitOnTheWay();
        theSourceItself();
        theCellItself();
        leastOfSeveralSources();
        firstSupplyRange();
        leastSupplyRange();
        greatestSupplyRange();
        costsBeyondTheRange();
        longestWay();
        forcesOfTheBalance();
        noBalance();
        Check.end();
    }

    private static void noCost(Played x, int side, int cell) {
        Check.refused("supplyCost(" + side + ", " + cell + ")", NoSuchElementException.class,
                () -> x.supplyCost(side, cell));
    }

    /** "Each cell can be a source of each side, at first none is." */
    private static void noSources() {
        Played x = new Played();
        x.add(0, 0, 1, 1);
        x.add(1, 62, 1, 1);
        for (int side = 0; side <= 1; side++) {
            Check.same("cells(" + side + ", 4)", x.cells(side, 4), 0L);
            Check.same("unit(" + side + ", 6)", x.unit(side, 6), 0);
            for (int cell = 0; cell < 63; cell++) {
                noCost(x, side, cell);
            }
        }
    }

    /** "A way that leads from a source of the side": those of the other side supply nobody. */
    private static void sourcesOfTheOtherSide() {
        Played x = new Played();
        x.setSource(31, 0, true);
        x.add(1, 31, 1, 1);
        noCost(x, 1, 31);
        noCost(x, 1, 30);
        Check.same("cells(1, 4)", x.cells(1, 4), 0L);
        Check.same("unit(0, 6)", x.unit(0, 6), 0);
        x.setSource(31, 1, true);
        Check.same("supplyCost(1, 31)", x.supplyCost(1, 31), 0);
        Check.same("unit(0, 6)", x.unit(0, 6), 1);
        x.setSource(31, 1, false);
        noCost(x, 1, 31);
    }

    /** "Sources have the supply cost 0 if they are not closed", whatever their terrain. */
    private static void sourcesCostNothing() {
        for (int terrain = 0; terrain <= 4; terrain++) {
            Played x = new Played();
            x.setTerrain(31, terrain, false);
            x.setSource(31, 0, true);
            x.setSource(33, 0, true);
            Check.same("supplyCost(0, 31)", x.supplyCost(0, 31), 0);
            Check.same("supplyCost(0, 33)", x.supplyCost(0, 33), 0);
            Check.same("supplyCost(0, 32)", x.supplyCost(0, 32), 1);
        }
    }

    /** "A cell is closed for the supply of a side if it is water". */
    private static void closedByWater() {
        Played x = Scene.corridor("pp~pp");
        x.setSource(18, 0, true);
        Check.holds("closed for 0", x.cells(0, 3), 20, true);
        Check.holds("closed for 1", x.cells(1, 3), 20, true);
        Check.holds("closed for 0", x.cells(0, 3), 19, false);
        Check.same("cells(0, 4)", x.cells(0, 4), Scene.set(18, 19));
        x.setTerrain(20, 3, false);
        Check.same("cells(0, 4) without water", x.cells(0, 4), Scene.set(18, 19, 20, 21, 22));
    }

    /** "Or a unit of the other side is there". */
    private static void closedByUnitsOfTheOtherSide() {
        Played x = Scene.corridor("pmmmm");
        x.set(false, 30);
        x.setSource(18, 0, true);
        x.setSource(18, 1, true);
        x.add(1, 20, 1, 1);
        Check.same("cells(0, 3)", x.cells(0, 3) & Scene.set(18, 19, 20, 21, 22), Scene.set(20));
        Check.same("cells(1, 3)", x.cells(1, 3) & Scene.set(18, 19, 20, 21, 22), 0L);
        Check.same("cells(0, 4)", x.cells(0, 4), Scene.set(18, 19));
        Check.same("cells(1, 4)", x.cells(1, 4), Scene.set(18, 19, 20, 21, 22));
        noCost(x, 0, 20);
        noCost(x, 0, 21);
    }

    /** "Or it is in the zone of the other side": beside the unit, not two cells off. */
    private static void closedByZones() {
        Played x = Scene.corridor("ppppppp");
        x.setSource(18, 0, true);
        x.setSource(24, 0, true);
        x.add(1, 21, 1, 1);
        Check.same("cells(0, 3)", x.cells(0, 3) & 127L << 18, Scene.set(20, 21, 22));
        Check.same("cells(1, 3)", x.cells(1, 3) & 127L << 18, 0L);
        Check.same("cells(0, 4)", x.cells(0, 4), Scene.set(18, 19, 23, 24));
        noCost(x, 0, 20);
        noCost(x, 0, 22);
    }

    /** "By all its units", those that are not seen, too. */
    private static void closedByHiddenUnits() {
        Played x = Scene.corridor("pppppppp");
        x.set(true, 1);
        x.setSource(18, 0, true);
        x.add(0, 18, 1, 1);
        x.add(1, 22, 1, 1);
        Check.same("known(0)", x.known(0), 0);
        Check.same("cells(0, 4)", x.cells(0, 4), Scene.set(18, 19, 20));
        noCost(x, 0, 21);
    }

    /** A mountain is in no zone, so that the supply goes over it. */
    private static void mountainsBesideTheOtherSide() {
        Played x = new Played();
        x.setSource(30, 0, true);
        x.add(1, 31, 1, 1);
        noCost(x, 0, 30);
        x.setTerrain(30, 4, false);
        Check.same("supplyCost(0, 30)", x.supplyCost(0, 30), 0);
        Check.same("supplyCost(0, 29)", x.supplyCost(0, 29), 1);
        noCost(x, 0, 22);
    }

    /** "And no unit of the side is there". */
    private static void openByUnitsOfItsOwn() {
        Played x = Scene.corridor("ppppmp");
        x.setSource(18, 0, true);
        x.add(1, 21, 1, 1);
        noCost(x, 0, 20);
        x.add(0, 20, 1, 1);
        Check.same("supplyCost(0, 20) with a unit of its own", x.supplyCost(0, 20), 2);
        Check.same("unit(1, 6)", x.unit(1, 6), 1);
        noCost(x, 0, 21);
        noCost(x, 0, 22);
    }

    /** Both cells between are in the zone; each one needs a unit. */
    private static void openByEachUnitOnTheWay() {
        Played x = Scene.corridor("pppp");
        x.setTerrain(10, 0, false);
        x.setSource(18, 0, true);
        x.add(1, 10, 1, 1);
        x.add(0, 20, 1, 1);
        noCost(x, 0, 19);
        noCost(x, 0, 20);
        Check.same("unit(1, 6)", x.unit(1, 6), 0);
        x.add(0, 19, 1, 1);
        Check.same("supplyCost(0, 19)", x.supplyCost(0, 19), 1);
        Check.same("supplyCost(0, 20)", x.supplyCost(0, 20), 2);
        Check.same("supplyCost(0, 21) behind the zone", x.supplyCost(0, 21), 3);
        Check.same("unit(1, 6)", x.unit(1, 6), 1);
    }

    /** "Over cells that are not closed, the source [..] itself included". */
    private static void theSourceItself() {
        Played x = Scene.corridor("ppppp");
        x.setSource(20, 0, true);
        x.add(1, 20, 1, 1);
        Check.same("a source with a unit of the other side", x.cells(0, 4), 0L);
        x.undo();
        x.add(1, 21, 1, 1);
        Check.same("a source in the zone", x.cells(0, 4), 0L);
        noCost(x, 0, 20);
        noCost(x, 0, 19);
        x.add(0, 20, 1, 1);
        Check.same("a source in the zone with a unit of its own", x.cells(0, 4), Scene.set(18, 19, 20));
        Check.same("supplyCost(0, 20)", x.supplyCost(0, 20), 0);
    }

    /** "Over cells that are not closed, [..] the cell itself included". */
    private static void theCellItself() {
        Played x = new Played();
        x.set(false, 30);
        x.setSource(0, 1, true);
        x.add(0, 31, 1, 1);
        for (int cell = 0; cell < 63; cell++) {
            if (Grid.distance(cell, 31) <= 1) {
                noCost(x, 1, cell);
            } else {
                Check.same("supplyCost(1, " + cell + ") is there", x.supplyCost(1, cell) >= 0, true);
            }
        }
        Check.same("cells(1, 4)", x.cells(1, 4), Grid.ring(31, 2, 11));
    }

    /** "The least sum of the costs of the steps", from any source. */
    private static void leastOfSeveralSources() {
        Played x = Scene.corridor("pppmpppp");
        x.setSource(18, 0, true);
        x.setSource(25, 0, true);
        int[] dues = {0, 1, 2, 6, 3, 2, 1, 0};
        for (int i = 0; i < dues.length; i++) {
            Check.same("supplyCost(0, " + (18 + i) + ")", x.supplyCost(0, 18 + i), dues[i]);
        }
        x.setSource(25, 0, false);
        Check.same("supplyCost(0, 25) of one source", x.supplyCost(0, 25), 10);
    }

    private static void supplied(Played x, int unit, int cost, boolean due) {
        String where = " at the cost " + cost + " with the range " + x.count(4);
        int cell = x.unit(unit, 1);
        Check.same("supplyCost" + where, x.supplyCost(0, cell), cost);
        Check.same("unit(" + unit + ", 6)" + where, x.unit(unit, 6), due ? 1 : 0);
        Check.same("the force" + where, x.unit(unit, 5), due ? 5 : 3);
        Check.same("the allowance" + where, x.unit(unit, 4), due ? 7 : 4);
        Check.holds("cells(0, 4)" + where, x.cells(0, 4), cell, due);
    }

    /** "At most the supply range, a number from 1 to 30, at first 10." */
    private static void firstSupplyRange() {
        Played x = Scene.corridor("pmmwpp");
        x.setSource(18, 0, true);
        x.add(0, 21, 5, 7);
        x.add(0, 22, 5, 7);
        supplied(x, 0, 10, true);
        supplied(x, 1, 11, false);
        x.set(false, 11);
        supplied(x, 1, 11, true);
        x.set(false, 9);
        supplied(x, 0, 10, false);
    }

    /** "The supply range, a number from 1": the costs 0, 1 and 2. */
    private static void leastSupplyRange() {
        Played x = Scene.corridor("ppp");
        x.set(false, 1);
        x.setSource(18, 0, true);
        for (int cell = 18; cell <= 20; cell++) {
            x.add(0, cell, 5, 7);
        }
        supplied(x, 0, 0, true);
        supplied(x, 1, 1, true);
        supplied(x, 2, 2, false);
    }

    /** "To 30": the costs 30 and 31. */
    private static void greatestSupplyRange() {
        Played x = Scene.corridor("pmmmmmmsm");
        x.set(false, 30);
        x.setSource(18, 0, true);
        x.add(0, 25, 5, 7);
        x.add(0, 26, 5, 7);
        supplied(x, 0, 27, true);
        supplied(x, 1, 31, false);
        x.setTerrain(26, 3, false);
        supplied(x, 1, 30, true);
        x.set(false, 29);
        supplied(x, 1, 30, false);
        Check.same("endTurn()", x.endTurn(), 0);
        Check.same("a unit at the cost 27", x.unit(0, 2), 5);
        Check.same("a unit at the cost 30", x.unit(1, 2), 4);
    }

    /** The supply range ends what is supplied, not what has a supply cost. */
    private static void costsBeyondTheRange() {
        Played x = new Played();
        x.set(false, 1);
        x.setSource(0, 1, true);
        for (int cell = 0; cell < 63; cell++) {
            Check.same("supplyCost(1, " + cell + ")", x.supplyCost(1, cell), Grid.distance(0, cell));
        }
        Check.same("cells(1, 4)", x.cells(1, 4), Scene.set(0, 1, 9));
    }

    /** Mountains in snow, to and fro between water: 36 steps with the cost 6. */
    private static void longestWay() {
        Played x = Scene.ofText("mmmmmmmmm/~~~~~~~~m/mmmmmmmmm/m~~~~~~~~/mmmmmmmmm/~~~~~~~~m/mmmmmmmmm");
        x.set(true, 2);
        x.set(false, 30);
        x.setSource(0, 0, true);
        x.add(0, 0, 9, 12);
        Check.same("supplyCost(0, 54)", x.supplyCost(0, 54), 216);
        Check.same("cost(0, 54)", x.cost(0, 54), 216);
        Check.same("way(0, 54, 0)", x.way(0, 54, 0), 0);
        Check.same("way(0, 54, 9)", x.way(0, 54, 9), 17);
        Check.same("way(0, 54, 35)", x.way(0, 54, 35), 55);
        Check.same("way(0, 54, 36)", x.way(0, 54, 36), 54);
        Check.refused("way(0, 54, 37)", NoSuchElementException.class, () -> x.way(0, 54, 37));
        Check.same("reach(0)", x.reach(0), Scene.set(1, 2));
        Check.same("cells(0, 4)", x.cells(0, 4), Scene.set(0, 1, 2, 3, 4, 5));
    }

    /** "The sums of the forces of both sides, as doubles: that of side 0, divided by that of side 1." */
    private static void forcesOfTheBalance() {
        Played x = new Played();
        x.add(1, 62, 1, 1);
        Check.same("no units of side 0", x.balance(), 0.0);
        x.add(0, 0, 1, 1);
        Check.same("1 by 1", x.balance(), 1.0);
        x.add(1, 60, 9, 1);
        Check.same("1 by 1 and half of 9", x.balance(), 1.0 / 6.0);
        x.setSource(60, 1, true);
        x.set(false, 1);
        Check.same("1 by 1 and 9", x.balance(), 1.0 / 10.0);
        x.add(0, 2, 9, 1);
        x.setSource(2, 0, true);
        Check.same("10 by 10", x.balance(), 1.0);
    }

    /** "If side 1 has no units": at first, and when the last one is removed. */
    private static void noBalance() {
        Played x = new Played();
        Check.refusedUnchanged(x, "balance() without units", ArithmeticException.class, x::balance);
        x.add(0, 0, 9, 1);
        Check.refusedUnchanged(x, "balance() of side 0 alone", ArithmeticException.class, x::balance);
        x.add(1, 62, 1, 1);
        Check.same("balance()", x.balance(), 5.0);
        x.endTurn();
        Check.same("endTurn() removes the last one", x.endTurn(), 1);
        Check.refusedUnchanged(x, "balance() after its last unit", ArithmeticException.class, x::balance);
    }
}
