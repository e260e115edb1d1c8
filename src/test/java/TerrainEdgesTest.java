import java.util.NoSuchElementException;

/** The edges in the chapter "Terrain", and of the promises 3 to 6 and 9. */
public final class TerrainEdgesTest {
    private static final int[][] COSTS = {{1, 2, 2, 3, 4}, {2, 3, 3, 5, 5}, {2, 3, 3, 2, 6}};
    private static final String LETTERS = "pwhsm";

    public static void main(String[] args) {
        firstAndLastTerrain();
        roadsOnAllButWater();
        aRoadGoes();
        waterUnderUnits();
        sourcesOfBothSides();
        firstAndLastWeather();
        firstAndLastSupplyRange();
        whatOfACell();
        whatIsCounted();
        stepCosts();
        roadsOfBothCells();
        noStepsToWater();
        noStepsFromSourcesOnWater();
        Check.end();
    }

    /** "A cell is 0 plain, as at first, [to] 5 water". */
    private static void firstAndLastTerrain() {
        Played x = new Played();
        for (int cell = 0; cell < 63; cell++) {
            Check.same("cell(" + cell + ", 0) of a new object", x.cell(cell, 0), 0);
            Check.same("cell(" + cell + ", 1) of a new object", x.cell(cell, 1), 0);
        }
        for (int terrain = 0; terrain <= 5; terrain++) {
            Check.same("setTerrain(31, ..)", x.setTerrain(31, terrain, false), Math.max(0, terrain - 1));
            Check.same("cell(31, 0)", x.cell(31, 0), terrain);
        }
        Check.same("setTerrain(31, 0, false) of water", x.setTerrain(31, 0, false), 5);
        for (int terrain : new int[] {-1, 6, Integer.MIN_VALUE, Integer.MAX_VALUE}) {
            Check.refusedUnchanged(x, "setTerrain(31, " + terrain + ", false)", IllegalArgumentException.class,
                    () -> x.setTerrain(31, terrain, false));
            Check.refusedUnchanged(x, "setTerrain(31, " + terrain + ", true)", IllegalArgumentException.class,
                    () -> x.setTerrain(31, terrain, true));
        }
    }

    /** "Cells other than water can have a road". */
    private static void roadsOnAllButWater() {
        Played x = new Played();
        for (int terrain = 0; terrain <= 4; terrain++) {
            x.setTerrain(9 * terrain, terrain, true);
            Check.same("cell(" + 9 * terrain + ", 0)", x.cell(9 * terrain, 0), terrain);
            Check.same("cell(" + 9 * terrain + ", 1)", x.cell(9 * terrain, 1), 1);
        }
        for (int cell : new int[] {0, 36, 62}) {
            Check.refusedUnchanged(x, "setTerrain(" + cell + ", 5, true)", IllegalArgumentException.class,
                    () -> x.setTerrain(cell, 5, true));
        }
    }

    /** "hasRoad: whether it has a road", also where there was one. */
    private static void aRoadGoes() {
        Played x = new Played();
        x.setTerrain(31, 2, true);
        Check.same("setTerrain(31, 2, false)", x.setTerrain(31, 2, false), 2);
        Check.same("cell(31, 1)", x.cell(31, 1), 0);
        x.setTerrain(31, 2, true);
        Check.same("setTerrain(31, 5, false)", x.setTerrain(31, 5, false), 2);
        Check.same("cell(31, 1) of water", x.cell(31, 1), 0);
        x.setTerrain(31, 1, false);
        Check.same("cell(31, 1) after water", x.cell(31, 1), 0);
    }

    /** "If it is water, and a unit is on the cell": of either side, as long as it is there. */
    private static void waterUnderUnits() {
        for (int side = 0; side <= 1; side++) {
            Played x = new Played();
            x.add(side, 0, 2, 2);
            x.add(1 - side, 62, 1, 2);
            for (int cell : new int[] {0, 62}) {
                Check.refusedUnchanged(x, "setTerrain(" + cell + ", 5, false)", IllegalStateException.class,
                        () -> x.setTerrain(cell, 5, false));
                for (int terrain = 0; terrain <= 4; terrain++) {
                    x.setTerrain(cell, terrain, true);
                    Check.same("a cell with a unit", x.cell(cell, 0), terrain);
                }
            }
            x.endTurn();
            x.endTurn();
            Check.same("water where a unit was removed", x.setTerrain(62, 5, false), 4);
            if (side == 0) {
                x.move(0, 1);
                Check.same("water where a unit has left", x.setTerrain(0, 5, false), 4);
                Check.refused("water where it is then", IllegalStateException.class,
                        () -> x.setTerrain(1, 5, false));
            }
        }
    }

    /** "Each cell can be a source of each side, at first none is." */
    private static void sourcesOfBothSides() {
        Played x = new Played();
        for (int side = 0; side <= 1; side++) {
            Check.same("sources of a new object", x.cells(side, 2), 0L);
            for (int cell = 0; cell < 63; cell++) {
                Check.same("setSource of a new object", x.setSource(cell, side, true), false);
            }
            Check.same("all cells as sources", x.cells(side, 2), Long.MAX_VALUE);
        }
        Check.same("cell(0, 2)", x.cell(0, 2), 3);
        Check.same("setSource(0, 0, false)", x.setSource(0, 0, false), true);
        Check.same("cell(0, 2)", x.cell(0, 2), 2);
        Check.same("setSource(0, 1, false)", x.setSource(0, 1, false), true);
        Check.same("cell(0, 2)", x.cell(0, 2), 0);
        for (int side : new int[] {-1, 2, Integer.MIN_VALUE, Integer.MAX_VALUE}) {
            Check.refusedUnchanged(x, "setSource(0, " + side + ", true)", IndexOutOfBoundsException.class,
                    () -> x.setSource(0, side, true));
            Check.refusedUnchanged(x, "setSource(1, " + side + ", false)", IndexOutOfBoundsException.class,
                    () -> x.setSource(1, side, false));
        }
    }

    /** "The weather is 0 dry, as at first, 1 rain or 2 snow." */
    private static void firstAndLastWeather() {
        Played x = new Played();
        Check.same("count(3) at first", x.count(3), 0);
        for (int weather : new int[] {-1, 3, Integer.MIN_VALUE, Integer.MAX_VALUE}) {
            Check.refusedUnchanged(x, "set(true, " + weather + ")", IllegalArgumentException.class,
                    () -> x.set(true, weather));
        }
        Check.same("set(true, 2)", x.set(true, 2), 0);
        Check.same("count(5) with snow", x.count(5), 3);
        Check.same("set(true, 1)", x.set(true, 1), 2);
        Check.same("count(5) with rain", x.count(5), 2);
        Check.same("set(true, 0)", x.set(true, 0), 1);
        Check.same("count(5) when it is dry", x.count(5), 4);
        Check.same("set leaves the supply range", x.count(4), 10);
    }

    /** "The supply range, a number from 1 to 30, at first 10." */
    private static void firstAndLastSupplyRange() {
        Played x = new Played();
        for (int range : new int[] {0, -1, 31, Integer.MIN_VALUE, Integer.MAX_VALUE}) {
            Check.refusedUnchanged(x, "set(false, " + range + ")", IllegalArgumentException.class,
                    () -> x.set(false, range));
        }
        Check.same("set(false, 1)", x.set(false, 1), 10);
        Check.same("set(false, 30)", x.set(false, 30), 1);
        Check.same("count(4)", x.count(4), 30);
        Check.same("set leaves the weather", x.count(3), 0);
    }

    /** "What: 0 its terrain; [..] 4 the sum of their strengths". */
    private static void whatOfACell() {
        Played x = Scene.busy();
        for (int what : new int[] {-1, 5, Integer.MIN_VALUE, Integer.MAX_VALUE}) {
            Check.refused("cell(0, " + what + ")", IllegalArgumentException.class, () -> x.cell(0, what));
        }
        x.add(0, 50, 9, 1);
        x.add(0, 50, 3, 1);
        Check.same("the greatest sum of strengths", x.cell(50, 4), 12);
        Check.same("no unit", x.cell(0, 3), 0);
        Check.same("the sum of no strengths", x.cell(0, 4), 0);
    }

    /** "What: 0 the units; [..] 7 the attacks so far". */
    private static void whatIsCounted() {
        Played x = new Played();
        int[] dues = {0, 0, 0, 0, 10, 4, 0, 0};
        for (int what = 0; what <= 7; what++) {
            Check.same("count(" + what + ") of a new object", x.count(what), dues[what]);
        }
        for (int what : new int[] {-1, 8, Integer.MIN_VALUE, Integer.MAX_VALUE}) {
            Check.refused("count(" + what + ")", IllegalArgumentException.class, () -> x.count(what));
        }
    }

    private static void steps(String map, int weather, int due) {
        Played x = Scene.corridor(map);
        x.set(true, weather);
        x.setSource(18, 0, true);
        x.add(0, 18, 1, 1);
        String where = " in " + map + " with the weather " + weather;
        Check.same("cost(0, 19)" + where, x.cost(0, 19), due);
        Check.same("supplyCost(0, 19)" + where, x.supplyCost(0, 19), due);
    }

    /** "For the terrains 0 to 4 of the neighbor", in each weather, whatever is left. */
    private static void stepCosts() {
        for (int weather = 0; weather <= 2; weather++) {
            for (int from = 0; from <= 4; from++) {
                for (int to = 0; to <= 4; to++) {
                    steps("" + LETTERS.charAt(from) + LETTERS.charAt(to), weather, COSTS[weather][to]);
                }
            }
        }
    }

    /** "The cost of a step to a neighbor is 1 if both cells have a road", not if one of them has. */
    private static void roadsOfBothCells() {
        for (int weather = 0; weather <= 2; weather++) {
            for (int from = 0; from <= 4; from++) {
                for (int to = 0; to <= 4; to++) {
                    String one = LETTERS.substring(from, from + 1);
                    String other = LETTERS.substring(to, to + 1);
                    steps(one.toUpperCase() + other.toUpperCase(), weather, 1);
                    steps(one.toUpperCase() + other, weather, COSTS[weather][to]);
                    steps(one + other.toUpperCase(), weather, COSTS[weather][to]);
                }
            }
        }
    }

    /** "There are no steps to water." */
    private static void noStepsToWater() {
        for (int weather = 0; weather <= 2; weather++) {
            Played x = Scene.corridor("P~Pp");
            x.set(true, weather);
            x.set(false, 30);
            x.setSource(18, 0, true);
            x.add(0, 18, 1, 12);
            for (int cell : new int[] {19, 20, 21, 9, 0, 62}) {
                Check.refused("cost(0, " + cell + ")", NoSuchElementException.class, () -> x.cost(0, cell));
                Check.refused("way(0, " + cell + ", 0)", NoSuchElementException.class, () -> x.way(0, cell, 0));
                Check.refused("supplyCost(0, " + cell + ")", NoSuchElementException.class,
                        () -> x.supplyCost(0, cell));
            }
            Check.same("reach(0)", x.reach(0), 0L);
            Check.same("cells(0, 4)", x.cells(0, 4), 1L << 18);
        }
    }

    /** "Over cells that are not closed, the source [..] itself included": water is closed. */
    private static void noStepsFromSourcesOnWater() {
        Played x = Scene.corridor("~p");
        x.setSource(18, 0, true);
        Check.same("cells(0, 4)", x.cells(0, 4), 0L);
        Check.refused("supplyCost(0, 18)", NoSuchElementException.class, () -> x.supplyCost(0, 18));
        Check.refused("supplyCost(0, 19)", NoSuchElementException.class, () -> x.supplyCost(0, 19));
        x.setTerrain(18, 0, false);
        Check.same("supplyCost(0, 19) without the water", x.supplyCost(0, 19), 1);
    }
}
