import java.util.NoSuchElementException;

/** Promises 13 to 15: zones, sight and supply. */
public final class SightAndSupplyTest {
    public static void main(String[] args) {
        promise13Zone();
        promise13Seen();
        promise13SourcesAndClosed();
        promise13Supplied();
        promise13Refusals();
        promise14Range();
        promise14Heights();
        promise14WaysAround();
        promise14Refusals();
        promise15TerrainAndWeather();
        promise15Roads();
        promise15ClosedCells();
        promise15Refusals();
        Check.end();
    }

    private static void promise13Zone() {
        Played x = new Played();
        Check.same("cells(0, 0) without units", x.cells(0, 0), 0L);
        x.add(0, 20, 1, 1);
        Check.same("cells(0, 0)", x.cells(0, 0), Scene.set(21, 11, 10, 19, 28, 29));
        x.setTerrain(21, 4, false);
        x.setTerrain(10, 5, false);
        x.setTerrain(11, 3, false);
        Check.same("cells(0, 0) beside mountain and water", x.cells(0, 0), Scene.set(11, 19, 28, 29));
        x.add(0, 28, 1, 1);
        Check.same("cells(0, 0) of two", x.cells(0, 0), Scene.set(11, 19, 28, 29, 20, 27, 37, 38));
        Check.same("cells(1, 0)", x.cells(1, 0), 0L);
        x.add(1, 62, 1, 1);
        Check.same("cells(1, 0)", x.cells(1, 0), Scene.set(61, 53, 52));
    }

    private static void promise13Seen() {
        Played x = new Played();
        Check.same("cells(1, 1) without units", x.cells(1, 1), 0L);
        x.set(true, 1);
        x.add(1, 0, 1, 1);
        Check.same("cells(1, 1)", x.cells(1, 1), Scene.set(0, 1, 2, 9, 10, 18, 19));
        x.add(1, 62, 1, 1);
        x.setTerrain(61, 1, false);
        Check.same("cells(1, 1) of two", x.cells(1, 1),
                Scene.set(0, 1, 2, 9, 10, 18, 19, 62, 61, 53, 52, 51, 44, 43));
    }

    private static void promise13SourcesAndClosed() {
        Played x = new Played();
        x.setSource(3, 1, true);
        x.setSource(62, 1, true);
        Check.same("cells(1, 2)", x.cells(1, 2), Scene.set(3, 62));
        Check.same("cells(0, 2)", x.cells(0, 2), 0L);
        x.setTerrain(50, 5, false);
        x.setTerrain(18, 4, false);
        x.add(0, 0, 1, 1);
        x.add(0, 9, 1, 1);
        Check.same("cells(1, 3)", x.cells(1, 3), Scene.set(50, 0, 9, 1, 10, 19));
        Check.same("cells(0, 3)", x.cells(0, 3), Scene.set(50));
        x.add(1, 10, 1, 1);
        Check.same("cells(1, 3) with a unit there", x.cells(1, 3), Scene.set(50, 0, 9, 1, 19));
        Check.same("cells(0, 3) with a unit there", x.cells(0, 3), Scene.set(50, 10, 1, 2, 11, 20, 19));
    }

    private static void promise13Supplied() {
        Played x = Scene.corridor("ppwhsmppp");
        Check.same("cells(0, 4) without sources", x.cells(0, 4), 0L);
        x.setSource(18, 0, true);
        int[] costs = {0, 1, 3, 5, 8, 12, 13, 14, 15};
        for (int range = 1; range <= 30; range++) {
            x.set(false, range);
            long due = 0;
            for (int i = 0; i < costs.length; i++) {
                due |= costs[i] <= range ? 1L << 18 + i : 0;
            }
            Check.same("cells(0, 4) of range " + range, x.cells(0, 4), due);
        }
        Check.same("cells(1, 4)", x.cells(1, 4), 0L);
    }

    private static void promise13Refusals() {
        Played x = new Played();
        for (int side : new int[] {-1, 2, Integer.MIN_VALUE, Integer.MAX_VALUE}) {
            Check.refused("cells(" + side + ", 9)", IndexOutOfBoundsException.class, () -> x.cells(side, 9));
        }
        for (int what : new int[] {-1, 5, Integer.MIN_VALUE, Integer.MAX_VALUE}) {
            Check.refused("cells(0, " + what + ")", IllegalArgumentException.class, () -> x.cells(0, what));
        }
    }

    private static void promise14Range() {
        int[] ranges = {4, 2, 3};
        for (int weather = 0; weather < 3; weather++) {
            for (int one = 0; one < 63; one++) {
                Played x = new Played();
                x.set(true, weather);
                for (int other = 0; other < 63; other++) {
                    Check.same("isSeen(" + one + ", " + other + ")", x.isSeen(one, other),
                            x.distance(one, other) <= ranges[weather]);
                }
            }
        }
    }

    private static void sight(Played x, int one, int other, boolean due) {
        Check.same("isSeen(" + one + ", " + other + ") after " + x.calls(), x.isSeen(one, other), due);
        Check.same("isSeen(" + other + ", " + one + ") after " + x.calls(), x.isSeen(other, one), due);
    }

    private static void promise14Heights() {
        // The heights of the letters; from 18 to 20 there is one shortest way, over 19.
        String letters = "pwhsm~";
        int[] heights = {0, 1, 2, 0, 3, 0};
        for (int a = 0; a < 6; a++) {
            for (int b = 0; b < 6; b++) {
                for (int c = 0; c < 6; c++) {
                    Played x = Scene.corridor("" + letters.charAt(a) + letters.charAt(b) + letters.charAt(c));
                    sight(x, 18, 20, heights[b] <= Math.max(heights[a], heights[c]));
                    sight(x, 18, 19, true);
                    sight(x, 18, 18, true);
                }
            }
        }
    }

    private static void promise14WaysAround() {
        Played x = new Played();
        x.setTerrain(19, 1, false);
        sight(x, 18, 28, true);
        x.setTerrain(27, 1, false);
        sight(x, 18, 28, false);
        x.setTerrain(28, 1, false);
        sight(x, 18, 28, true);
        sight(x, 18, 20, false);
        // 9 and 10 lead from 18 to 20 as well, but in more steps.
        x.setTerrain(19, 2, false);
        x.setTerrain(18, 2, false);
        sight(x, 18, 22, true);
        x.setTerrain(21, 4, false);
        sight(x, 18, 22, false);
        x.setTerrain(22, 4, false);
        sight(x, 18, 22, true);
        x.set(true, 2);
        sight(x, 18, 22, false);
    }

    private static void promise14Refusals() {
        Played x = new Played();
        for (int cell : new int[] {-1, 63, Integer.MIN_VALUE, Integer.MAX_VALUE}) {
            Check.refused("isSeen", IndexOutOfBoundsException.class, () -> x.isSeen(cell, 0));
            Check.refused("isSeen", IndexOutOfBoundsException.class, () -> x.isSeen(0, cell));
        }
    }

    private static void supplyCosts(Played x, int... dues) {
        for (int i = 0; i < dues.length; i++) {
            int cell = 18 + i;
            if (dues[i] < 0) {
                Check.refused("supplyCost(0, " + cell + ")", NoSuchElementException.class,
                        () -> x.supplyCost(0, cell));
            } else {
                Check.same("supplyCost(0, " + cell + ")", x.supplyCost(0, cell), dues[i]);
            }
        }
    }

    private static void promise15TerrainAndWeather() {
        Played x = Scene.corridor("mpwhsmp~p");
        supplyCosts(x, -1, -1, -1, -1, -1, -1, -1, -1, -1);
        x.setSource(18, 0, true);
        supplyCosts(x, 0, 1, 3, 5, 8, 12, 13, -1, -1);
        x.set(true, 1);
        supplyCosts(x, 0, 2, 5, 8, 13, 18, 20, -1, -1);
        x.set(true, 2);
        supplyCosts(x, 0, 2, 5, 8, 10, 16, 18, -1, -1);
        x.setSource(24, 0, true);
        supplyCosts(x, 0, 2, 5, 8, 8, 6, 0, -1, -1);
        x.setSource(25, 0, true);
        supplyCosts(x, 0, 2, 5, 8, 8, 6, 0, -1, -1);
    }

    private static void promise15Roads() {
        Played x = Scene.corridor("pPWHpSMMm");
        x.setSource(18, 0, true);
        supplyCosts(x, 0, 1, 2, 3, 4, 7, 8, 9, 13);
        x.set(true, 1);
        supplyCosts(x, 0, 2, 3, 4, 6, 11, 12, 13, 18);
    }

    private static void promise15ClosedCells() {
        Played x = Scene.corridor("ppppppppp");
        x.setSource(18, 0, true);
        x.add(1, 23, 1, 1);
        supplyCosts(x, 0, 1, 2, 3, -1, -1, -1, -1, -1);
        x.add(0, 22, 1, 1);
        supplyCosts(x, 0, 1, 2, 3, 4, -1, -1, -1, -1);
        x.add(0, 24, 1, 1);
        supplyCosts(x, 0, 1, 2, 3, 4, -1, -1, -1, -1);
        x.setSource(24, 0, true);
        supplyCosts(x, 0, 1, 2, 3, 4, -1, 0, 1, 2);
        x.undo();
        x.undo();
        x.setSource(24, 0, true);
        supplyCosts(x, 0, 1, 2, 3, 4, -1, -1, -1, -1);
        x.setSource(23, 0, true);
        supplyCosts(x, 0, 1, 2, 3, 4, -1, -1, -1, -1);
        x.setTerrain(24, 4, false);
        supplyCosts(x, 0, 1, 2, 3, 4, -1, 0, 1, 2);
        Check.same("supplyCost beyond the range", costBeyondRange(), 31);
    }

    private static int costBeyondRange() {
        Played x = Scene.corridor("psmmmmmmm");
        x.setSource(18, 0, true);
        return x.supplyCost(0, 26);
    }

    private static void promise15Refusals() {
        Played x = new Played();
        for (int wrong : new int[] {-1, 63, Integer.MIN_VALUE, Integer.MAX_VALUE}) {
            Check.refused("supplyCost", IndexOutOfBoundsException.class, () -> x.supplyCost(0, wrong));
            Check.refused("supplyCost", IndexOutOfBoundsException.class, () -> x.supplyCost(wrong, 0));
        }
        Check.refused("supplyCost", IndexOutOfBoundsException.class, () -> x.supplyCost(2, 0));
        Check.refused("supplyCost", NoSuchElementException.class, () -> x.supplyCost(1, 0));
    }
}
