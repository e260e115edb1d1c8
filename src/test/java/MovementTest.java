import java.util.NoSuchElementException;

/** Promises 16 to 19: what a unit can reach, by which way and cost, and how it moves. */
public final class MovementTest {
    public static void main(String[] args) {
        promise16Allowance();
        promise16Room();
        promise16HasMoved();
        promise17TerrainAndWeather();
        promise17NoWay();
        promise17KnownZone();
        promise17StartInZone();
        promise17UnknownUnits();
        promise18LeastCells();
        promise18EqualCosts();
        promise18FromZone();
        promise18Steps();
        promise16To18Refusals();
        promise19Move();
        promise19Refusals();
        promise19Ambush();
        promise19StopInZone();
        promise19Reports();
        Check.end();
    }

    private static long within(Played x, int cell, int steps) {
        long found = 0;
        for (int other = 0; other < 63; other++) {
            int distance = x.distance(cell, other);
            found |= distance > 0 && distance <= steps ? 1L << other : 0;
        }
        return found;
    }

    private static void promise16Allowance() {
        for (int movement = 1; movement <= 12; movement++) {
            Played x = new Played();
            x.add(1, 20, 9, movement);
            Check.same("reach without supply", x.reach(0), within(x, 20, (movement + 1) / 2));
            x.setSource(20, 1, true);
            Check.same("reach with supply", x.reach(0), within(x, 20, movement));
        }
        Played x = Scene.corridor("ppwhsmppp");
        x.setSource(20, 0, true);
        x.add(0, 20, 1, 5);
        Check.same("reach over terrain", x.reach(0), Scene.set(18, 19, 21, 22));
        x.set(true, 1);
        Check.same("reach with rain", x.reach(0), Scene.set(18, 19, 21));
        x.set(true, 2);
        Check.same("reach with snow", x.reach(0), Scene.set(18, 19, 21, 22));
    }

    private static void promise16Room() {
        Played x = Scene.corridor("pppppp");
        x.setSource(18, 0, true);
        x.add(0, 18, 4, 5);
        x.add(0, 19, 9, 5);
        x.add(0, 20, 8, 5);
        x.add(0, 21, 1, 5);
        x.add(0, 21, 1, 5);
        x.add(0, 21, 1, 5);
        x.add(0, 22, 1, 5);
        x.add(0, 22, 1, 5);
        Check.same("reach through full cells", x.reach(0), Scene.set(20, 22, 23));
        Check.same("a strength of 1 more", x.reach(3), Scene.set(18, 19, 20, 22, 23));
        Check.same("the strength of 8", x.reach(2), Scene.set(18, 22, 23));
        x.add(1, 23, 9, 5);
        Check.same("reach with a unit of the other side", x.reach(0), Scene.set(20, 22));
    }

    private static void promise16HasMoved() {
        Played x = Scene.corridor("pppppp");
        x.add(0, 20, 4, 2);
        x.move(0, 21);
        Check.same("reach after a move", x.reach(0), Scene.set(20, 22));
        x.endTurn();
        Check.same("reach on the turn of the other side", x.reach(0), Scene.set(20, 22));
    }

    private static void costs(Played x, int unit, int first, int... dues) {
        for (int i = 0; i < dues.length; i++) {
            int cell = first + i;
            if (dues[i] < 0) {
                Check.refused("cost(" + unit + ", " + cell + ")", NoSuchElementException.class,
                        () -> x.cost(unit, cell));
                Check.refused("way(" + unit + ", " + cell + ", 0)", NoSuchElementException.class,
                        () -> x.way(unit, cell, 0));
            } else {
                Check.same("cost(" + unit + ", " + cell + ")", x.cost(unit, cell), dues[i]);
            }
        }
    }

    private static void promise17TerrainAndWeather() {
        Played x = Scene.corridor("mpwhsmPMP");
        x.add(0, 19, 1, 1);
        costs(x, 0, 18, 4, -1, 2, 4, 7, 11, 12, 13, 14);
        x.set(true, 1);
        costs(x, 0, 18, 5, -1, 3, 6, 11, 16, 18, 19, 20);
        x.set(true, 2);
        costs(x, 0, 18, 6, -1, 3, 6, 8, 14, 16, 17, 18);
    }

    private static void promise17NoWay() {
        Played x = Scene.corridor("ppp~ppppp");
        x.add(0, 18, 1, 1);
        costs(x, 0, 18, -1, 1, 2, -1, -1);
        costs(x, 0, 0, -1);
        x.setTerrain(21, 0, false);
        costs(x, 0, 21, 3, 4, 5, 6, 7, 8);
        x.add(1, 21, 1, 1);
        costs(x, 0, 18, -1, 1, 2, -1, -1, -1);
    }

    private static void promise17KnownZone() {
        Played x = new Played();
        x.add(0, 20, 1, 12);
        Check.same("cost(0, 14)", x.cost(0, 14), 4);
        x.add(1, 22, 1, 1);
        Check.same("cost(0, 21)", x.cost(0, 21), 1);
        Check.same("cost(0, 14) around the zone", x.cost(0, 14), 5);
        int[] way = {20, 11, 3, 4, 5, 14};
        for (int i = 0; i < way.length; i++) {
            Check.same("way(0, 14, " + i + ")", x.way(0, 14, i), way[i]);
        }
        x.add(0, 12, 1, 1);
        x.add(0, 13, 1, 1);
        Check.same("cost(0, 13) by units in the zone", x.cost(0, 13), 4);
        Check.same("way(0, 13, 1)", x.way(0, 13, 1), 11);
        Check.same("way(0, 13, 3)", x.way(0, 13, 3), 4);
        costs(x, 0, 22, -1);
    }

    private static void promise17StartInZone() {
        Played x = new Played();
        x.add(0, 21, 1, 12);
        x.add(1, 22, 1, 1);
        Check.same("cost(0, 12) without a unit there", x.cost(0, 12), 2);
        Check.same("cost(0, 20)", x.cost(0, 20), 1);
        Check.same("cost(0, 13) around", x.cost(0, 13), 4);
        x.add(0, 12, 1, 1);
        Check.same("cost(0, 12) with a unit there", x.cost(0, 12), 1);
        Check.same("cost(0, 13) is not over 12", x.cost(0, 13), 4);
        x.undo();
        x.setTerrain(12, 4, true);
        x.setTerrain(21, 0, true);
        Check.same("cost(0, 12) on a mountain road", x.cost(0, 12), 1);
        Check.same("cost(0, 13) from the mountain", x.cost(0, 13), 2);
    }

    private static void promise17UnknownUnits() {
        Played x = Scene.corridor("ppppppppp");
        x.set(true, 1);
        x.add(0, 18, 1, 1);
        x.add(1, 21, 1, 1);
        costs(x, 0, 19, 2, 4, 6, 8, 10, 12, 14, 16);
        x.add(0, 19, 1, 1);
        costs(x, 0, 19, 2, 4, -1, -1);
    }

    private static void way(Played x, int unit, int... cells) {
        int end = cells[cells.length - 1];
        for (int i = 0; i < cells.length; i++) {
            Check.same("way(" + unit + ", " + end + ", " + i + ")", x.way(unit, end, i), cells[i]);
        }
        for (int i : new int[] {-1, cells.length, Integer.MIN_VALUE, Integer.MAX_VALUE}) {
            Check.refused("way(" + unit + ", " + end + ", " + i + ")", NoSuchElementException.class,
                    () -> x.way(unit, end, i));
        }
    }

    private static void promise18LeastCells() {
        Played x = new Played();
        x.add(0, 20, 1, 1);
        way(x, 0, 20, 11);
        way(x, 0, 20, 11, 12);
        way(x, 0, 20, 21, 30);
        way(x, 0, 20, 11, 3, 4);
        way(x, 0, 20, 19, 27);
        way(x, 0, 20, 10, 2);
        x.setTerrain(11, 5, false);
        way(x, 0, 20, 21, 12);
        way(x, 0, 20, 21, 12, 4);
        way(x, 0, 20, 10, 2);
    }

    private static void promise18EqualCosts() {
        Played x = new Played();
        for (int cell : new int[] {19, 27, 28}) {
            x.setTerrain(cell, 4, false);
        }
        x.setTerrain(9, 2, false);
        x.setTerrain(10, 2, false);
        x.add(0, 18, 1, 1);
        Check.same("cost(0, 20)", x.cost(0, 20), 5);
        way(x, 0, 18, 9, 10, 20);
        int[] kinds = {9, 4, 10, 4, 27, 2, 28, 2};
        for (int i = 0; i < kinds.length; i += 2) {
            x.setTerrain(kinds[i], kinds[i + 1], false);
        }
        Check.same("cost(0, 20)", x.cost(0, 20), 5);
        way(x, 0, 18, 19, 20);
        x.setTerrain(28, 1, true);
        Check.same("cost(0, 20)", x.cost(0, 20), 5);
        way(x, 0, 18, 19, 20);
        x.setTerrain(27, 2, true);
        Check.same("cost(0, 20)", x.cost(0, 20), 4);
        way(x, 0, 18, 27, 28, 20);
    }

    private static void promise18FromZone() {
        Played x = new Played();
        x.setTerrain(11, 1, true);
        x.setTerrain(12, 0, true);
        x.add(0, 21, 1, 1);
        Check.same("cost(0, 11)", x.cost(0, 11), 2);
        way(x, 0, 21, 11);
        x.add(1, 20, 1, 1);
        Check.same("cost(0, 11) in the zone", x.cost(0, 11), 2);
        way(x, 0, 21, 12, 11);
        x.add(0, 11, 1, 1);
        way(x, 0, 21, 11);
    }

    private static void promise18Steps() {
        Played x = Scene.corridor("ppppppppp");
        x.add(1, 26, 1, 1);
        way(x, 0, 26, 25, 24, 23, 22, 21, 20, 19, 18);
        way(x, 0, 26, 25);
        Check.refused("way(0, 26, 0)", NoSuchElementException.class, () -> x.way(0, 26, 0));
        Check.refused("way(0, 0, 0)", NoSuchElementException.class, () -> x.way(0, 0, 0));
    }

    private static void promise16To18Refusals() {
        Played x = new Played();
        x.add(0, 20, 1, 1);
        x.add(0, 40, 2, 1);
        x.endTurn();
        for (int unit : new int[] {0, 2, -1, 16, 33, Integer.MIN_VALUE, Integer.MAX_VALUE}) {
            Check.refused("reach", IndexOutOfBoundsException.class, () -> x.reach(unit));
            Check.refused("cost", IndexOutOfBoundsException.class, () -> x.cost(unit, 0));
            Check.refused("way", IndexOutOfBoundsException.class, () -> x.way(unit, 0, 0));
        }
        for (int cell : new int[] {-1, 63, Integer.MIN_VALUE, Integer.MAX_VALUE}) {
            Check.refused("cost", IndexOutOfBoundsException.class, () -> x.cost(1, cell));
            Check.refused("way", IndexOutOfBoundsException.class, () -> x.way(1, cell, 99));
        }
    }

    private static void promise19Move() {
        Played x = new Played();
        x.setSource(20, 0, true);
        x.add(0, 20, 5, 3);
        x.add(0, 22, 5, 3);
        Check.same("move(0, 22)", x.move(0, 22), 22);
        Check.same("unit(0, 1)", x.unit(0, 1), 22);
        Check.same("cell(22, 3)", x.cell(22, 3), 0b11);
        Check.same("cell(20, 3)", x.cell(20, 3), 0);
        Check.same("move(1, 21)", x.move(1, 21), 21);
        Check.same("count(6)", x.count(6), 0);
        x.endTurn();
        x.endTurn();
        Check.same("move(0, 20) in the next round", x.move(0, 20), 20);
    }

    private static void promise19Refusals() {
        Played x = new Played();
        x.add(0, 20, 5, 4);
        x.add(1, 22, 5, 4);
        x.add(0, 21, 5, 4);
        for (int unit : new int[] {3, -1, 16, Integer.MIN_VALUE, Integer.MAX_VALUE}) {
            Check.refusedUnchanged(x, "move of no unit", IndexOutOfBoundsException.class, () -> x.move(unit, 20));
        }
        for (int cell : new int[] {63, -1, Integer.MIN_VALUE, Integer.MAX_VALUE}) {
            Check.refusedUnchanged(x, "move to no cell", IndexOutOfBoundsException.class, () -> x.move(1, cell));
        }
        Check.refusedUnchanged(x, "move(1, 22)", IllegalArgumentException.class, () -> x.move(1, 22));
        Check.refusedUnchanged(x, "move(1, 23)", IllegalStateException.class, () -> x.move(1, 23));
        Check.refusedUnchanged(x, "move(1, 60)", IllegalStateException.class, () -> x.move(1, 60));
        Check.refused("report(0, 0)", NoSuchElementException.class, () -> x.report(0, 0));
        x.move(0, 19);
        Check.refusedUnchanged(x, "a second move", IllegalStateException.class, () -> x.move(0, 20));
        Check.refusedUnchanged(x, "a second move to its own cell", IllegalArgumentException.class,
                () -> x.move(0, 19));
        x.attack(21, 22);
        Check.refusedUnchanged(x, "a move after an attack", IllegalStateException.class, () -> x.move(2, 20));
        Check.same("undo() after refusals", x.undo(), 4);
        Check.same("move(2, 20) before the attack", x.move(2, 20), 20);
        Check.refused("move(2, 62)", IllegalStateException.class, () -> x.move(2, 62));
        x.undo();
        Check.refused("move(2, 62)", UnsupportedOperationException.class, () -> x.move(2, 62));
        Check.same("undo() after a report", x.undo(), 3);
    }

    private static void promise19Ambush() {
        for (int goal : new int[] {23, 24, 26}) {
            Played x = Scene.hiddenAt23("PPPPMPPPP");
            Check.same("move(0, " + goal + ")", x.move(0, goal), 22);
            Check.same("unit(0, 1)", x.unit(0, 1), 22);
            Check.same("count(6)", x.count(6), 1);
            Check.same("unit(0, 7)", x.unit(0, 7), 0);
            Check.same("unit(0, 8)", x.unit(0, 8), 1);
            Check.same("known(0)", x.known(0), 0b10);
            Check.refused("a second move", IllegalStateException.class, () -> x.move(0, 21));
            Check.same("the attack", x.attack(22, 23), 1);
            x.endTurn();
            x.endTurn();
            Check.same("count(6)", x.count(6), 1);
        }
    }

    private static void promise19StopInZone() {
        for (int goal : new int[] {22, 23, 24, 26}) {
            Played x = Scene.hiddenAt23("PPPPPPPPP");
            Check.same("move(0, " + goal + ")", x.move(0, goal), 22);
            Check.same("count(6)", x.count(6), 0);
            Check.same("unit(0, 7)", x.unit(0, 7), 0);
        }
        Played x = Scene.hiddenAt23("PPPPPPPPP");
        x.set(true, 0);
        Check.same("move(0, 21) in the open", x.move(0, 21), 21);
        x.undo();
        x.add(0, 22, 1, 1);
        Check.same("move(0, 22) beside a unit", x.move(0, 22), 22);
    }

    private static void report(Played x, int unit, int cell, int... dues) {
        Check.refused("move(" + unit + ", " + cell + ")", UnsupportedOperationException.class,
                () -> x.move(unit, cell));
        for (int i = 0; i < dues.length; i++) {
            Check.same("report of move(" + unit + ", " + cell + "), part " + i, x.report(i / 2, i % 2), dues[i]);
        }
        Check.refused("one level more", NoSuchElementException.class, () -> x.report(dues.length / 2, 0));
    }

    private static void promise19Reports() {
        Played x = Scene.corridor("ppppppppp");
        x.setSource(18, 0, true);
        x.add(0, 18, 5, 3);
        x.add(0, 20, 8, 3);
        x.add(0, 19, 1, 3);
        x.add(0, 19, 1, 3);
        x.add(0, 19, 1, 3);
        x.add(0, 23, 9, 1);
        report(x, 0, 0, 1, 0, 2, 0);
        report(x, 0, 22, 1, 0, 3, 4);
        report(x, 0, 20, 1, 0, 4, 1);
        report(x, 0, 19, 1, 0, 4, 3);
        report(x, 0, 23, 1, 0, 3, 5);
        x.setSource(18, 0, false);
        report(x, 0, 21, 1, 0, 3, 3, 5, 2);
        report(x, 0, 20, 1, 0, 4, 1);
        report(x, 2, 62, 1, 2, 2, 62);
        x.move(2, 21);
        Check.same("a report after a move", x.report(1, 0), 2);
        x.add(1, 22, 1, 1);
        report(x, 0, 22, 1, 0, 2, 22);
        report(x, 0, 23, 1, 0, 2, 23);
    }
}
