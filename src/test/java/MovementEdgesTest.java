import java.util.NoSuchElementException;

/** The edges in the chapter "Movement", and of the promises 16 to 18. */
public final class MovementEdgesTest {
    public static void main(String[] args) {
        lastCellWithinTheAllowance();
        allowanceOfEachMovement();
        allowanceInEachWeather();
        neverItsOwnCell();
        noStepsToKnownUnits();
        stepsToHiddenUnits();
        noStepsFromZoneToZone();
        noStepsBetweenZonesOfSeveralUnits();
        fromZoneToItsOwnUnit();
        notOnFromZone();
        onFromTheFirstCell();
        mountainsAreInNoZone();
        zonesOfHiddenUnits();
        zonesOfItsOwnSide();
        roomForTwelveAtTheEnd();
        roomForThreeUnitsAtTheEnd();
        roomOnCellsWithTheNumbersOfUnits();
        roomByItsOwnSide();
        roomIsNeededAtTheEndAlone();
        hiddenUnitsTakeNoRoom();
        reachWithoutATurn();
        costOfWaysThatAreTooLong();
        numbersOfSteps();
        noWayAtAll();
        leastCells();
        leastCellsWithRoads();
        leastCellsAroundAZone();
        Check.end();
    }

    private static void noWay(Played x, int unit, int... cells) {
        for (int cell : cells) {
            Check.refused("cost(" + unit + ", " + cell + ")", NoSuchElementException.class,
                    () -> x.cost(unit, cell));
            for (int i : new int[] {0, 1}) {
                Check.refused("way(" + unit + ", " + cell + ", " + i + ")", NoSuchElementException.class,
                        () -> x.way(unit, cell, i));
            }
            Check.holds("reach(" + unit + ")", x.reach(unit), cell, false);
        }
    }

    private static void costs(Played x, int unit, int first, int... dues) {
        for (int i = 0; i < dues.length; i++) {
            Check.same("cost(" + unit + ", " + (first + i) + ")", x.cost(unit, first + i), dues[i]);
        }
    }

    /** "Whose cost is at most the allowance": the costs are 2, 4, 7, 11 and 12. */
    private static void lastCellWithinTheAllowance() {
        long[] dues = {0, Scene.set(19), Scene.set(19), Scene.set(19, 20), Scene.set(19, 20), Scene.set(19, 20),
            Scene.set(19, 20, 21), Scene.set(19, 20, 21), Scene.set(19, 20, 21), Scene.set(19, 20, 21),
            Scene.set(19, 20, 21, 22), Scene.set(19, 20, 21, 22, 23)};
        for (int movement = 1; movement <= 12; movement++) {
            Played x = Scene.corridor("pwhsmpp");
            x.setSource(18, 0, true);
            x.add(0, 18, 1, movement);
            costs(x, 0, 19, 2, 4, 7, 11, 12, 13);
            Check.same("reach with the movement " + movement, x.reach(0), dues[movement - 1]);
        }
    }

    /** "Its movement if it is supplied, and otherwise half of it, rounded up". */
    private static void allowanceOfEachMovement() {
        for (int movement = 1; movement <= 12; movement++) {
            Played x = new Played();
            x.add(1, 31, 9, movement);
            Check.same("reach without supply", x.reach(0), Grid.ring(31, 1, (movement + 1) / 2));
            x.setSource(31, 1, true);
            Check.same("reach with supply", x.reach(0), Grid.ring(31, 1, movement));
        }
    }

    /** "Whose cost is at most the allowance": with rain and with snow each step costs 2. */
    private static void allowanceInEachWeather() {
        for (int weather = 1; weather <= 2; weather++) {
            Played x = Scene.corridor("ppppppppp");
            x.set(true, weather);
            x.setSource(18, 0, true);
            x.add(0, 18, 1, 11);
            x.add(0, 18, 1, 12);
            x.add(0, 18, 1, 1);
            costs(x, 0, 19, 2, 4, 6, 8, 10, 12, 14, 16);
            Check.same("reach of 11", x.reach(0), Scene.set(19, 20, 21, 22, 23));
            Check.same("reach of 12", x.reach(1), Scene.set(19, 20, 21, 22, 23, 24));
            Check.same("reach of 1", x.reach(2), 0L);
        }
    }

    /** "It can reach a cell other than its own". */
    private static void neverItsOwnCell() {
        for (int cell : new int[] {0, 31, 62}) {
            Played x = new Played();
            x.setSource(cell, 0, true);
            x.add(0, cell, 1, 12);
            noWay(x, 0, cell);
            Check.same("reach of all others", x.reach(0), Long.MAX_VALUE & ~(1L << cell));
        }
    }

    /** "A neighbor that is not water, and without a known unit of the other side". */
    private static void noStepsToKnownUnits() {
        Played x = Scene.corridor("mmmmm");
        x.add(0, 18, 1, 12);
        x.add(1, 20, 1, 12);
        costs(x, 0, 19, 4);
        noWay(x, 0, 20, 21, 22);
        costs(x, 1, 21, 4, 8);
        noWay(x, 1, 18);
    }

    /** A unit that is not seen is on the way and at its end, as if it was not there. */
    private static void stepsToHiddenUnits() {
        Played x = Scene.corridor("PPPPPPP");
        x.set(true, 1);
        x.setSource(18, 0, true);
        x.add(0, 18, 1, 5);
        x.add(1, 21, 9, 5);
        costs(x, 0, 19, 1, 2, 3, 4, 5, 6);
        Check.same("way over a hidden unit", x.way(0, 23, 3), 21);
        Check.same("reach", x.reach(0), Scene.set(19, 20, 21, 22, 23));
        x.set(true, 2);
        costs(x, 0, 19, 1, 2);
        noWay(x, 0, 21, 22);
        Check.same("reach with a range of 3", x.reach(0), Scene.set(19, 20));
    }

    /** The unit of side 1 on 12 is beside 21 and 22 of the third row; all else is water. */
    private static Played beside21And22(int cell) {
        Played x = Scene.corridor("pppppppp");
        x.setTerrain(12, 0, false);
        x.add(0, cell, 1, 12);
        x.add(1, 12, 1, 12);
        return x;
    }

    /** "It cannot make a step from a cell of the known zone to another cell of the known zone". */
    private static void noStepsFromZoneToZone() {
        Played x = beside21And22(20);
        costs(x, 0, 18, 2, 1);
        costs(x, 0, 21, 1);
        noWay(x, 0, 22, 23, 24, 25);
        Played y = beside21And22(21);
        costs(y, 0, 18, 3, 2, 1);
        noWay(y, 0, 22, 23);
        Played z = beside21And22(22);
        costs(z, 0, 23, 1, 2, 3);
        noWay(z, 0, 21, 20);
    }

    /** "The known zone is the zone of the other side by these units", all of them together. */
    private static void noStepsBetweenZonesOfSeveralUnits() {
        Played x = Scene.corridor("ppppp");
        x.setTerrain(9, 0, false);
        x.setTerrain(29, 0, false);
        x.add(0, 19, 1, 12);
        x.add(1, 9, 1, 12);
        costs(x, 0, 20, 1, 2, 3);
        x.add(1, 29, 1, 12);
        noWay(x, 0, 18, 20, 21, 22);
    }

    /** "Unless a unit of its own side is on that one". */
    private static void fromZoneToItsOwnUnit() {
        Played x = beside21And22(21);
        noWay(x, 0, 22);
        x.add(0, 21, 1, 12);
        noWay(x, 0, 22);
        x.undo();
        x.add(0, 22, 1, 12);
        costs(x, 0, 22, 1);
        Check.holds("reach", x.reach(0), 22, true);
        noWay(x, 0, 23);
        costs(x, 2, 21, 1);
        noWay(x, 2, 20);
    }

    /** "It can go on from a cell of the known zone, whoever is there, only if [..] it starts" there. */
    private static void notOnFromZone() {
        Played x = beside21And22(20);
        costs(x, 0, 21, 1);
        noWay(x, 0, 22);
        x.add(0, 22, 1, 12);
        noWay(x, 0, 22, 23);
        x.add(0, 21, 1, 12);
        costs(x, 0, 21, 1);
        noWay(x, 0, 22, 23);
        costs(x, 3, 22, 1);
        noWay(x, 3, 23);
    }

    /** "The cell from which it starts". */
    private static void onFromTheFirstCell() {
        Played x = beside21And22(22);
        costs(x, 0, 23, 1, 2, 3);
        Played y = new Played();
        y.add(0, 31, 1, 12);
        y.add(1, 32, 1, 12);
        costs(y, 0, 30, 1);
        costs(y, 0, 23, 2);
        Check.same("out of the zone and into it", y.way(0, 23, 1), 22);
        Check.same("out of the zone and into it", y.way(0, 23, 2), 23);
        noWay(y, 0, 32);
    }

    /** A way leads over mountains beside a known unit. */
    private static void mountainsAreInNoZone() {
        Played x = beside21And22(20);
        x.setTerrain(21, 4, false);
        costs(x, 0, 21, 4, 5);
        noWay(x, 0, 23);
        x.setTerrain(22, 4, true);
        costs(x, 0, 21, 4, 8, 9, 10);
        Played y = beside21And22(21);
        y.setTerrain(22, 4, false);
        costs(y, 0, 22, 4, 5, 6);
    }

    /** "By these units": the zone of a unit that is not known hinders nobody. */
    private static void zonesOfHiddenUnits() {
        Played x = beside21And22(18);
        x.set(true, 1);
        costs(x, 0, 19, 2, 4, 6, 8, 10);
        x.add(0, 19, 1, 1);
        costs(x, 0, 19, 2, 4, 6, 8, 10);
        x.add(0, 20, 1, 1);
        costs(x, 0, 19, 2, 4, 6);
        noWay(x, 0, 22, 23);
    }

    /** "The known zone is the zone of the other side": its own one hinders nobody. */
    private static void zonesOfItsOwnSide() {
        Played x = Scene.corridor("ppppppp");
        x.setTerrain(12, 0, false);
        x.add(0, 20, 1, 12);
        x.add(0, 12, 1, 12);
        costs(x, 0, 21, 1, 2, 3, 4);
    }

    /** "The strengths of all of them, with it, are at most 12." */
    private static void roomForTwelveAtTheEnd() {
        for (int strength = 1; strength <= 9; strength++) {
            for (int other = 1; other <= 9; other++) {
                Played x = Scene.corridor("pp");
                x.add(0, 18, strength, 12);
                x.add(0, 19, other, 12);
                Check.same("reach of " + strength + " to " + other, x.reach(0),
                        strength + other <= 12 ? 1L << 19 : 0L);
                Check.same("cost of " + strength + " to " + other, x.cost(0, 19), 1);
            }
        }
    }

    /** "At most two other units". */
    private static void roomForThreeUnitsAtTheEnd() {
        Played x = Scene.corridor("pp");
        x.add(0, 18, 1, 12);
        for (int others = 0; others <= 3; others++) {
            Check.same("reach to " + others + " others", x.reach(0), others <= 2 ? 1L << 19 : 0L);
            if (others < 3) {
                x.add(0, 19, 1, 12);
            }
        }
        Check.same("cost to a full cell", x.cost(0, 19), 1);
        Check.same("way to a full cell", x.way(0, 19, 1), 19);
        Check.same("reach of one of three", x.reach(1), 1L << 18);
    }

    /** Each unit stands on the cell of its number, and takes room there. */
    private static void roomOnCellsWithTheNumbersOfUnits() {
        Played x = new Played();
        x.setSource(24, 0, true);
        for (int unit = 0; unit < 15; unit++) {
            x.add(0, unit, 9, 12);
        }
        x.add(0, 24, 4, 12);
        Check.same("reach", x.reach(15), Long.MAX_VALUE & ~0x7FFFL & ~(1L << 24));
        for (int cell = 0; cell < 15; cell++) {
            Check.same("way(15, " + cell + ", 0)", x.way(15, cell, 0), 24);
        }
    }

    /** "By all units of its own side": the units 1 to 12 are of the other one and do not see it. */
    private static void roomByItsOwnSide() {
        for (int movement = 1; movement <= 12; movement++) {
            for (int side = 0; side <= 1; side++) {
                Played x = new Played();
                x.setSource(31, side, true);
                x.set(true, 1);
                x.setTerrain(31, 0, true);
                x.setTerrain(32, 0, true);
                x.add(side, 31, 9, movement);
                for (int unit = 1; unit <= 12; unit++) {
                    x.add(1 - side, 53 + (unit + 2) / 3, 1, 1);
                }
                Check.holds("reach of an empty cell", x.reach(0), 32, true);
                x.add(side, 32, 9, 1);
                Check.holds("reach of 9 to 9", x.reach(0), 32, false);
            }
        }
    }

    /** "And the cell has room for it": the cells before it need none. */
    private static void roomIsNeededAtTheEndAlone() {
        Played x = Scene.corridor("ppp");
        x.add(0, 18, 9, 12);
        x.add(0, 19, 9, 12);
        Check.same("reach over a strength of 9", x.reach(0), 1L << 20);
        Check.same("move over a strength of 9", x.move(0, 20), 20);
        Played y = Scene.corridor("ppp");
        y.add(0, 18, 1, 12);
        for (int i = 0; i < 3; i++) {
            y.add(0, 19, 1, 12);
        }
        Check.same("reach over three units", y.reach(0), 1L << 20);
        Check.same("move over three units", y.move(0, 20), 20);
    }

    /** "By all units of its own side and the known units of the other one". */
    private static void hiddenUnitsTakeNoRoom() {
        Played x = Scene.corridor("PPPPPPP");
        x.set(true, 1);
        x.add(0, 18, 9, 12);
        x.add(1, 21, 9, 12);
        Check.holds("reach", x.reach(0), 21, true);
        x.add(0, 22, 3, 12);
        Check.holds("reach of a known unit", x.reach(0), 21, false);
        x.undo();
        x.undo();
        x.add(0, 21, 4, 12);
        Check.holds("reach of a unit of its own that it does not see", x.reach(0), 21, false);
    }

    /** "Whether it can still move or not". */
    private static void reachWithoutATurn() {
        Played x = new Played();
        x.add(0, 31, 9, 2);
        x.add(1, 33, 9, 2);
        long due = Grid.around(33);
        Check.same("reach on the turn of the other side", x.reach(1), due);
        x.move(0, 32);
        long moved = Grid.around(32) & ~Grid.ring(33, 0, 1);
        Check.same("reach after a move", x.reach(0), moved);
        x.attack(32, 33);
        Check.same("reach after an attack", x.reach(0), moved);
        x.endTurn();
        Check.same("reach after the turn", x.reach(0), moved);
    }

    /** "Whether it can reach it or not". */
    private static void costOfWaysThatAreTooLong() {
        Played x = new Played();
        x.add(0, 0, 9, 1);
        for (int cell = 1; cell < 63; cell++) {
            Check.same("cost(0, " + cell + ")", x.cost(0, cell), Grid.distance(0, cell));
        }
        Check.same("way(0, 62, 11)", x.way(0, 62, 11), 62);
        Check.same("reach(0)", x.reach(0), Scene.set(1, 9));
    }

    /** "The number of steps up to there, from 0"; "or the way has not so many steps". */
    private static void numbersOfSteps() {
        Played x = Scene.corridor("ppppppppp");
        x.add(0, 18, 1, 1);
        for (int steps = 1; steps <= 8; steps++) {
            int end = 18 + steps;
            Check.same("way(0, " + end + ", 0)", x.way(0, end, 0), 18);
            Check.same("way(0, " + end + ", 1)", x.way(0, end, 1), 19);
            Check.same("way(0, " + end + ", " + steps + ")", x.way(0, end, steps), end);
            for (int i : new int[] {-1, steps + 1, 62, 63, Integer.MIN_VALUE, Integer.MAX_VALUE}) {
                Check.refused("way(0, " + end + ", " + i + ")", NoSuchElementException.class,
                        () -> x.way(0, end, i));
            }
        }
    }

    /** No cell to go to at all: alone between water, and between units of the other side. */
    private static void noWayAtAll() {
        Played x = Scene.corridor("p");
        x.add(0, 18, 1, 12);
        Check.same("reach between water", x.reach(0), 0L);
        noWay(x, 0, 9, 19, 27, 62);
        Played y = Scene.corridor("ppp");
        y.add(0, 19, 1, 12);
        y.add(1, 18, 1, 12);
        y.add(1, 20, 1, 12);
        Check.same("reach between units of the other side", y.reach(0), 0L);
        noWay(y, 0, 18, 20);
    }

    /** "The one whose cells, from the beginning on, are lexicographically least", from edges and corners too. */
    private static void leastCells() {
        for (int from : new int[] {0, 8, 31, 54, 62, 26, 27}) {
            Played x = new Played();
            x.add(0, from, 1, 1);
            for (int to = 0; to < 63; to++) {
                int cell = from;
                for (int i = 1; i <= Grid.distance(from, to); i++) {
                    cell = Long.numberOfTrailingZeros(Grid.around(cell) & Grid.ring(to, 0, Grid.distance(cell, to) - 1));
                    Check.same("way(0, " + to + ", " + i + ") from " + from, x.way(0, to, i), cell);
                }
            }
        }
    }

    /** Of two ways with the least cost the lesser one leads through a known zone, where it cannot go on. */
    private static void leastCellsAroundAZone() {
        Played x = new Played();
        x.add(0, 38, 1, 12);
        Check.same("way(0, 20, 1) over 28 or 29", x.way(0, 20, 1), 28);
        x.add(1, 27, 1, 12);
        Check.same("cost(0, 20) beside 27", x.cost(0, 20), 2);
        Check.same("way(0, 20, 1) beside 27", x.way(0, 20, 1), 29);
        Check.same("way(0, 28, 1) into the zone", x.way(0, 28, 1), 28);
        x.setTerrain(29, 5, false);
        Check.same("cost(0, 20) around the zone and the water", x.cost(0, 20), 4);
        Check.same("way(0, 20, 1) around the zone and the water", x.way(0, 20, 1), 39);
        x.setTerrain(28, 4, true);
        x.setTerrain(38, 0, true);
        Check.same("way(0, 20, 1) over a mountain, which is in no zone", x.way(0, 20, 1), 28);
    }

    /** A way with more steps has the same cost, and is the least one if its cells are. */
    private static void leastCellsWithRoads() {
        Played x = new Played();
        x.setTerrain(31, 0, true);
        x.setTerrain(30, 0, true);
        x.setTerrain(21, 1, true);
        x.add(0, 31, 1, 1);
        Check.same("cost(0, 21)", x.cost(0, 21), 2);
        Check.same("way(0, 21, 1)", x.way(0, 21, 1), 30);
        x.setTerrain(22, 0, true);
        Check.same("way(0, 21, 1)", x.way(0, 21, 1), 22);
        x.setTerrain(21, 0, true);
        Check.same("cost(0, 21)", x.cost(0, 21), 2);
        x.setTerrain(32, 3, false);
        Check.same("cost(0, 32)", x.cost(0, 32), 3);
        Check.same("way(0, 32, 1)", x.way(0, 32, 1), 32);
        x.setTerrain(32, 4, false);
        x.setTerrain(23, 0, true);
        Check.same("cost(0, 32) by one step", x.cost(0, 32), 4);
        Check.refused("way(0, 32, 2)", NoSuchElementException.class, () -> x.way(0, 32, 2));
        x.setTerrain(32, 4, true);
        x.setTerrain(31, 0, false);
        Check.same("cost(0, 32) from road to road", x.cost(0, 32), 2);
        Check.same("way(0, 32, 1)", x.way(0, 32, 1), 23);
    }
}
