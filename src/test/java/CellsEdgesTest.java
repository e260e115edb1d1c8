import java.util.NoSuchElementException;

/** The edges in the chapter "Cells": the first and the last cell and direction, and the edges of the map. */
public final class CellsEdgesTest {
    private interface OfCell {
        void call(Played x, int cell);
    }

    public static void main(String[] args) {
        firstAndLastCell();
        noSuchCell();
        bitsOfFirstAndLastCell();
        bitsOfFirstAndLastUnit();
        directions();
        neighborsOutsideDoNotExist();
        distancesOfAllCells();
        distanceWhateverTheTerrain();
        zonesEndWithTheMap();
        sightEndsWithTheMap();
        supplyEndsWithTheMap();
        movementEndsWithTheMap();
        attacksEndWithTheMap();
        retreatsEndWithTheMap();
        Check.end();
    }

    /** "The map has 9 columns and 7 rows; cell 9 * row + column is in this row and column". */
    private static void firstAndLastCell() {
        for (int cell : new int[] {0, 62}) {
            Played x = new Played();
            Check.same("setTerrain", x.setTerrain(cell, 1, true), 0);
            Check.same("setSource", x.setSource(cell, 1, true), false);
            Check.same("cell", x.cell(cell, 0), 1);
            Check.same("neighbor", x.neighbor(cell, cell == 0 ? 0 : 3), cell == 0 ? 1 : 61);
            Check.same("distance", x.distance(cell, cell), 0);
            Check.same("isSeen", x.isSeen(cell, cell), true);
            Check.same("supplyCost", x.supplyCost(1, cell), 0);
            Check.same("add", x.add(0, cell, 1, 4), 0);
            int beside = cell == 0 ? 1 : 61;
            Check.same("cost", x.cost(0, beside), 1);
            Check.same("way", x.way(0, beside, 1), beside);
            Check.same("move", x.move(0, beside), beside);
            x.endTurn();
            x.endTurn();
            x.add(0, beside, 9, 4);
            x.add(1, cell, 9, 4);
            Check.same("odds", x.odds(beside, cell, false), 5);
            Check.same("attack", x.attack(beside, cell), 0);
            x.endTurn();
            Check.same("odds back", x.odds(cell, beside, true), 4);
            Check.same("attack back", x.attack(cell, beside), 2);
        }
    }

    /** The cells -1 and 63, next to the first and the last one, and far ones. */
    private static void noSuchCell() {
        OfCell[] calls = {(x, c) -> x.setTerrain(c, 1, false), (x, c) -> x.setSource(c, 0, true),
            (x, c) -> x.cell(c, 0), (x, c) -> x.neighbor(c, 0), (x, c) -> x.distance(c, 0),
            (x, c) -> x.distance(0, c), (x, c) -> x.add(0, c, 1, 1), (x, c) -> x.isSeen(c, 0),
            (x, c) -> x.isSeen(0, c), (x, c) -> x.supplyCost(0, c), (x, c) -> x.cost(0, c),
            (x, c) -> x.way(0, c, 0), (x, c) -> x.move(0, c), (x, c) -> x.odds(c, 20, true),
            (x, c) -> x.odds(20, c, false), (x, c) -> x.attack(c, 20), (x, c) -> x.attack(20, c)};
        Played x = Scene.busy();
        x.endTurn();
        for (int i = 0; i < calls.length; i++) {
            for (int cell : new int[] {-1, 63, 64, -63, Integer.MIN_VALUE, Integer.MAX_VALUE}) {
                int call = i;
                Check.refused("call " + i + " of the cell " + cell, IndexOutOfBoundsException.class,
                        () -> calls[call].call(x, cell));
            }
        }
    }

    /** "Sets of cells are longs, bit c for cell c": the bits 0 and 62, and never bit 63. */
    private static void bitsOfFirstAndLastCell() {
        long both = 1L | 1L << 62;
        Played x = new Played();
        x.setSource(0, 0, true);
        x.setSource(62, 0, true);
        Check.same("cells(0, 2)", x.cells(0, 2), both);
        Check.same("cells(0, 4)", x.cells(0, 4), Long.MAX_VALUE);
        x.add(0, 0, 1, 12);
        x.add(0, 62, 1, 12);
        Check.same("cells(0, 0)", x.cells(0, 0), Scene.set(1, 9, 61, 53, 52));
        Check.same("cells(0, 1)", x.cells(0, 1), Grid.ring(0, 0, 4) | Grid.ring(62, 0, 4));
        Check.same("cells(1, 3)", x.cells(1, 3), both | Scene.set(1, 9, 61, 53, 52));
        Check.same("reach(0)", x.reach(0), Long.MAX_VALUE & ~1L);
        Check.same("reach(1)", x.reach(1), Long.MAX_VALUE & ~(1L << 62));
        for (int cell = 0; cell < 63; cell++) {
            x.setTerrain(cell, cell == 0 || cell == 62 ? 4 : 5, false);
        }
        Check.same("cells(0, 3)", x.cells(0, 3), Long.MAX_VALUE & ~both);
    }

    /** "Sets of units are ints, bit u for unit u": the bits 0 and 15. */
    private static void bitsOfFirstAndLastUnit() {
        Played x = new Played();
        x.add(1, 20, 1, 1);
        for (int i = 1; i < 15; i++) {
            x.add(0, 20 + i, 1, 1);
        }
        x.add(1, 20, 1, 1);
        Check.same("cell(20, 3)", x.cell(20, 3), 1 | 1 << 15);
        Check.same("known(0)", x.known(0), 1 | 1 << 15);
    }

    /** "0 east, 1 northeast, 2 northwest, 3 west, 4 southwest and 5 southeast". */
    private static void directions() {
        Played x = new Played();
        for (int direction = 0; direction <= 5; direction++) {
            Check.same("neighbor(31, " + direction + ")", x.neighbor(31, direction),
                    new int[] {32, 23, 22, 30, 40, 41}[direction]);
            Check.same("neighbor(22, " + direction + ")", x.neighbor(22, direction),
                    new int[] {23, 13, 12, 21, 30, 31}[direction]);
        }
        for (int direction : new int[] {-1, 6, Integer.MIN_VALUE, Integer.MAX_VALUE}) {
            Check.refused("neighbor(31, " + direction + ")", IndexOutOfBoundsException.class,
                    () -> x.neighbor(31, direction));
            Check.refused("neighbor(62, " + direction + ")", IndexOutOfBoundsException.class,
                    () -> x.neighbor(62, direction));
        }
    }

    /** "Neighbors outside of the map do not exist." */
    private static void neighborsOutsideDoNotExist() {
        Played x = new Played();
        int missing = 0;
        for (int cell = 0; cell < 63; cell++) {
            for (int direction = 0; direction < 6; direction++) {
                int due = Grid.neighbor(cell, direction);
                int c = cell;
                int d = direction;
                if (due < 0) {
                    missing++;
                    Check.refused("neighbor(" + cell + ", " + direction + ")", NoSuchElementException.class,
                            () -> x.neighbor(c, d));
                } else {
                    Check.same("neighbor(" + cell + ", " + direction + ")", x.neighbor(cell, direction), due);
                }
            }
        }
        Check.same("neighbors that do not exist", missing, 62);
    }

    /** "The least number of steps from neighbor to neighbor": 0 for a cell itself, 11 from corner to corner. */
    private static void distancesOfAllCells() {
        for (int one = 0; one < 63; one++) {
            Played x = new Played();
            for (int other = 0; other < 63; other++) {
                Check.same("distance(" + one + ", " + other + ")", x.distance(one, other),
                        Grid.distance(one, other));
            }
        }
        Played x = new Played();
        Check.same("distance(0, 62)", x.distance(0, 62), 11);
        Check.same("distance(8, 54)", x.distance(8, 54), 11);
        Check.same("distance(0, 8)", x.distance(0, 8), 8);
        Check.same("distance(0, 54)", x.distance(0, 54), 6);
        Check.same("distance(8, 9)", x.distance(8, 9), 8);
    }

    /** "Whatever the terrain". */
    private static void distanceWhateverTheTerrain() {
        Played x = Scene.ofText("~~~~~~~~~/".repeat(6) + "~~~~~~~~~");
        for (int other = 0; other < 63; other++) {
            Check.same("distance(31, " + other + ") on water", x.distance(31, other), Grid.distance(31, other));
        }
        x.setTerrain(31, 4, true);
        x.add(0, 31, 9, 9);
        Check.same("distance(30, 32) over a unit", x.distance(30, 32), 2);
    }

    /** "Neighbors outside of the map do not exist", for zones. */
    private static void zonesEndWithTheMap() {
        Played x = new Played();
        for (int cell = 0; cell < 63; cell++) {
            x.add(cell % 2, cell, 1, 1);
            Check.same("the zone around " + cell, x.cells(cell % 2, 0), Grid.around(cell));
            x.undo();
        }
    }

    /** "Neighbors outside of the map do not exist", for sight. */
    private static void sightEndsWithTheMap() {
        for (int weather = 0; weather <= 2; weather++) {
            Played x = new Played();
            x.set(true, weather);
            for (int cell = 0; cell < 63; cell++) {
                x.add(0, cell, 1, 1);
                Check.same("the sight from " + cell, x.cells(0, 1),
                        Grid.ring(cell, 0, new int[] {4, 2, 3}[weather]));
                x.undo();
            }
        }
    }

    /** "Neighbors outside of the map do not exist", for supply. */
    private static void supplyEndsWithTheMap() {
        Played x = new Played();
        x.set(false, 1);
        for (int cell = 0; cell < 63; cell++) {
            x.setSource(cell, 1, true);
            Check.same("the cells supplied from " + cell, x.cells(1, 4), Grid.ring(cell, 0, 1));
            x.undo();
        }
    }

    /** "Neighbors outside of the map do not exist", for movement. */
    private static void movementEndsWithTheMap() {
        Played x = new Played();
        for (int cell = 0; cell < 63; cell++) {
            x.add(0, cell, 1, 2);
            Check.same("the reach from " + cell, x.reach(0), Grid.around(cell));
            x.undo();
            x.add(0, cell, 1, 3);
            Check.same("the reach of two steps from " + cell, x.reach(0), Grid.ring(cell, 1, 2));
            x.undo();
        }
    }

    /** Cells are neighbors for an attack if they are neighbors on the map. */
    private static void attacksEndWithTheMap() {
        for (int from = 0; from < 63; from++) {
            Played x = new Played();
            for (int to = 0; to < 63; to++) {
                int f = from;
                int t = to;
                Class<? extends RuntimeException> due = Grid.distance(from, to) == 1
                        ? NoSuchElementException.class : IllegalArgumentException.class;
                Check.refused("odds(" + from + ", " + to + ")", due, () -> x.odds(f, t, true));
                Check.refused("attack(" + from + ", " + to + ")", due, () -> x.attack(f, t));
            }
        }
    }

    /** "Neighbors outside of the map do not exist", for retreats. */
    private static void retreatsEndWithTheMap() {
        for (int to = 0; to < 63; to++) {
            for (int direction = 0; direction < 6; direction++) {
                int from = Grid.neighbor(to, direction);
                if (from >= 0) {
                    retreat(from, to);
                }
            }
        }
    }

    /** On plains, a unit retreats to the farthest cell that is not beside the attackers, then the lowest. */
    private static void retreat(int from, int to) {
        Played x = new Played();
        x.add(0, from, 9, 1);
        x.add(1, to, 4, 1);
        long open = Grid.around(to) & ~Grid.ring(from, 0, 1);
        int due = open == 0 ? to : Long.numberOfTrailingZeros(open);
        String where = "from " + from + " on " + to + ": ";
        Check.same(where + "attack", x.attack(from, to), 2);
        Check.same(where + "the cell after the retreat", x.unit(1, 1), due);
        Check.same(where + "the strength after the retreat", x.unit(1, 2), open == 0 ? 1 : 3);
    }
}
