/** The edges in the chapters "Zones" and "Sight", and of the promises 12 to 14. */
public final class ZoneAndSightEdgesTest {
    private static final String LETTERS = "pwhsm~";
    private static final int[] HEIGHTS = {0, 1, 2, 0, 3, 0};
    private static final int[] RANGES = {4, 2, 3};

    public static void main(String[] args) {
        noZoneWithoutUnits();
        zonesOnAllButWaterAndMountain();
        zoneOfAUnitsOwnCell();
        zonesOfMovedAndRemovedUnits();
        aCellSeesItself();
        neighborsSeeEachOther();
        lastDistanceInSight();
        heightsBetween();
        eachCellBetween();
        heightsOfTheEnds();
        oneWayIsEnough();
        longerWaysDoNotCount();
        noWaysOutsideOfTheMap();
        sightOfASide();
        lastDistanceOfKnownUnits();
        whatOfCells();
        Check.end();
    }

    /** "By a set of its units": by none there is no zone. */
    private static void noZoneWithoutUnits() {
        Played x = new Played();
        Check.same("cells(0, 0)", x.cells(0, 0), 0L);
        Check.same("cells(1, 0)", x.cells(1, 0), 0L);
        x.add(1, 31, 1, 1);
        Check.same("cells(0, 0) with a unit of side 1", x.cells(0, 0), 0L);
        Check.same("cells(1, 0) with a unit of side 1", x.cells(1, 0), Grid.around(31));
    }

    /** "All cells other than water and mountain that are neighbors of a cell with one of these units". */
    private static void zonesOnAllButWaterAndMountain() {
        Played x = new Played();
        x.add(0, 31, 1, 1);
        for (int cell : new int[] {32, 23, 22, 30, 40, 41}) {
            for (int terrain = 0; terrain <= 5; terrain++) {
                x.setTerrain(cell, terrain, false);
                Check.holds("the zone on the terrain " + terrain, x.cells(0, 0), cell, terrain < 4);
            }
            x.setTerrain(cell, 4, true);
            Check.holds("the zone on a mountain road", x.cells(0, 0), cell, false);
            x.setTerrain(cell, 0, true);
            Check.holds("the zone on a road", x.cells(0, 0), cell, true);
        }
        x.setTerrain(31, 4, false);
        Check.same("the zone around a mountain", x.cells(0, 0), Grid.around(31));
    }

    /** A cell with a unit is in the zone if another one is beside it. */
    private static void zoneOfAUnitsOwnCell() {
        Played x = new Played();
        x.add(1, 31, 1, 1);
        x.add(1, 31, 1, 1);
        Check.holds("the zone of two units on a cell", x.cells(1, 0), 31, false);
        x.add(1, 33, 1, 1);
        Check.holds("the zone of a unit two cells off", x.cells(1, 0), 31, false);
        x.add(1, 32, 1, 1);
        Check.holds("the zone of a unit beside it", x.cells(1, 0), 31, true);
        x.add(0, 30, 1, 1);
        Check.holds("the zone on a cell of the other side", x.cells(1, 0), 30, true);
    }

    /** "A cell with one of these units": where they are now. */
    private static void zonesOfMovedAndRemovedUnits() {
        Played x = new Played();
        x.add(0, 31, 1, 2);
        x.move(0, 32);
        Check.same("the zone of a moved unit", x.cells(0, 0), Grid.around(32));
        x.endTurn();
        Check.same("the zone of a removed unit", x.cells(0, 0), 0L);
        Check.same("the sight of a removed unit", x.cells(0, 1), 0L);
    }

    /** "If their distance is 0". */
    private static void aCellSeesItself() {
        for (int terrain = 0; terrain <= 5; terrain++) {
            Played x = new Played();
            x.setTerrain(31, terrain, false);
            for (int weather = 0; weather <= 2; weather++) {
                x.set(true, weather);
                Check.same("isSeen(31, 31)", x.isSeen(31, 31), true);
            }
        }
    }

    /** There is no cell between neighbors that could be too high. */
    private static void neighborsSeeEachOther() {
        for (int one = 0; one <= 5; one++) {
            for (int other = 0; other <= 5; other++) {
                Played x = new Played();
                x.setTerrain(31, one, false);
                x.setTerrain(32, other, false);
                x.setTerrain(40, other, false);
                for (int weather = 0; weather <= 2; weather++) {
                    x.set(true, weather);
                    Check.same("isSeen(31, 32)", x.isSeen(31, 32), true);
                    Check.same("isSeen(32, 31)", x.isSeen(32, 31), true);
                    Check.same("isSeen(31, 40)", x.isSeen(31, 40), true);
                }
            }
        }
    }

    /** "The sight range is 4 when it is dry, 2 with rain and 3 with snow", along a row and aslant. */
    private static void lastDistanceInSight() {
        int[][] lines = {{18, 19, 20, 21, 22, 23}, {26, 25, 24, 23, 22, 21}, {2, 11, 21, 30, 40, 49},
            {60, 50, 41, 31, 22, 12}};
        for (int weather = 0; weather <= 2; weather++) {
            Played x = new Played();
            x.set(true, weather);
            Check.same("count(5)", x.count(5), RANGES[weather]);
            for (int[] line : lines) {
                for (int steps = 0; steps < line.length; steps++) {
                    Check.same("isSeen over " + steps + " steps with the weather " + weather,
                            x.isSeen(line[0], line[steps]), steps <= RANGES[weather]);
                }
            }
            x.setTerrain(18, 4, false);
            x.setTerrain(18 + RANGES[weather] + 1, 4, false);
            Check.same("mountains beyond the sight range", x.isSeen(18, 18 + RANGES[weather] + 1), false);
        }
    }

    /** "At most the greater one of the heights of both": as high is seen, one higher is not. */
    private static void heightsBetween() {
        for (int one = 0; one <= 5; one++) {
            for (int between = 0; between <= 5; between++) {
                for (int other = 0; other <= 5; other++) {
                    Played x = Scene.corridor("" + LETTERS.charAt(one) + LETTERS.charAt(between)
                            + LETTERS.charAt(other));
                    boolean due = HEIGHTS[between] <= Math.max(HEIGHTS[one], HEIGHTS[other]);
                    Check.same("isSeen(18, 20)", x.isSeen(18, 20), due);
                    Check.same("isSeen(20, 18)", x.isSeen(20, 18), due);
                    x.setTerrain(19, Math.min(between, 4), true);
                    Check.same("isSeen(18, 20) over a road", x.isSeen(18, 20),
                            HEIGHTS[Math.min(between, 4)] <= Math.max(HEIGHTS[one], HEIGHTS[other]));
                }
            }
        }
    }

    /** "The height of each cell between both": the first one, the last one and one in the middle. */
    private static void eachCellBetween() {
        Check.same("nothing higher", Scene.corridor("wwwww").isSeen(18, 22), true);
        Check.same("the first one higher", Scene.corridor("whwww").isSeen(18, 22), false);
        Check.same("the middle one higher", Scene.corridor("wwhww").isSeen(18, 22), false);
        Check.same("the last one higher", Scene.corridor("wwwhw").isSeen(18, 22), false);
        Check.same("all as high as one end", Scene.corridor("phhhh").isSeen(18, 22), true);
        Check.same("all as high as the other end", Scene.corridor("hhhhp").isSeen(18, 22), true);
        Check.same("all higher than both ends", Scene.corridor("phhhp").isSeen(18, 22), false);
        Check.same("mountains between mountains", Scene.corridor("mmmmm").isSeen(18, 22), true);
        Check.same("mountains between mountains and hills", Scene.corridor("hmmmm").isSeen(18, 22), true);
        Check.same("a mountain between hills", Scene.corridor("hpmph").isSeen(18, 22), false);
    }

    /** The heights of the ends hide nothing. */
    private static void heightsOfTheEnds() {
        Check.same("from a mountain", Scene.corridor("mpp").isSeen(18, 20), true);
        Check.same("to a mountain", Scene.corridor("ppm").isSeen(18, 20), true);
        Check.same("between mountains over a wood", Scene.corridor("mwm").isSeen(18, 20), true);
    }

    /** "There is a way of so many steps between them": one of two ways, both closed, another one open. */
    private static void oneWayIsEnough() {
        Played x = new Played();
        Check.same("both ways", x.isSeen(31, 13), true);
        x.setTerrain(22, 1, false);
        Check.same("one way", x.isSeen(31, 13), true);
        x.setTerrain(23, 1, false);
        Check.same("no way", x.isSeen(31, 13), false);
        Check.same("no way back", x.isSeen(13, 31), false);
        x.setTerrain(22, 0, false);
        Check.same("the other way", x.isSeen(31, 13), true);
    }

    /** From 31 to 33 there is one way of two steps; the ways around 32 have three. */
    private static void longerWaysDoNotCount() {
        Played x = new Played();
        x.setTerrain(32, 1, false);
        Check.same("isSeen(31, 33)", x.isSeen(31, 33), false);
        Check.same("isSeen(30, 33) at a distance of 3", x.isSeen(30, 33), false);
        Check.same("isSeen(31, 24) around", x.isSeen(31, 24), true);
    }

    /** In the corner and on the edge the ways over cells outside are missing. */
    private static void noWaysOutsideOfTheMap() {
        Played x = new Played();
        x.setTerrain(1, 1, false);
        Check.same("isSeen(0, 2) along the edge", x.isSeen(0, 2), false);
        x.setTerrain(61, 1, false);
        Check.same("isSeen(62, 60) along the edge", x.isSeen(62, 60), false);
        x.setTerrain(26, 1, false);
        Check.same("isSeen(17, 35) along the edge", x.isSeen(17, 35), false);
        x.setTerrain(27, 1, false);
        Check.same("isSeen(18, 36) along the edge", x.isSeen(18, 36), false);
        x.setTerrain(27, 0, false);
        Check.same("isSeen(18, 36) without the wood", x.isSeen(18, 36), true);
        Check.same("isSeen(8, 9) around the edge", x.isSeen(8, 9), false);
        Check.same("isSeen(17, 18) around the edge", x.isSeen(17, 18), false);
    }

    /** "A side sees the cells that are seen from the cells of its units." */
    private static void sightOfASide() {
        Played x = new Played();
        Check.same("cells(0, 1) without units", x.cells(0, 1), 0L);
        x.add(1, 31, 1, 1);
        Check.same("cells(0, 1) without units of its own", x.cells(0, 1), 0L);
        Check.same("cells(1, 1)", x.cells(1, 1), Grid.ring(31, 0, 4));
        x.add(1, 0, 1, 1);
        Check.same("cells(1, 1) of two units", x.cells(1, 1), Grid.ring(31, 0, 4) | Grid.ring(0, 0, 4));
        x.set(true, 1);
        Check.same("cells(1, 1) with rain", x.cells(1, 1), Grid.ring(31, 0, 2) | Grid.ring(0, 0, 2));
    }

    /** "The units of the other side that are on cells that the side sees", at the last distance and beyond. */
    private static void lastDistanceOfKnownUnits() {
        for (int weather = 0; weather <= 2; weather++) {
            int range = RANGES[weather];
            Played x = new Played();
            x.set(true, weather);
            x.add(0, 18, 1, 1);
            x.add(1, 18 + range, 1, 1);
            x.add(1, 18 + range + 1, 1, 1);
            Check.same("known(0)", x.known(0), 0b010);
            Check.same("known(1)", x.known(1), 0b001);
            Check.same("unit(1, 9)", x.unit(1, 9), 1);
            Check.same("unit(2, 9)", x.unit(2, 9), 0);
            Check.same("unit(0, 9)", x.unit(0, 9), 1);
            x.setTerrain(19, 1, false);
            Check.same("known(0) behind a wood", x.known(0), 0);
            Check.same("known(1) behind a wood", x.known(1), 0);
            Check.same("unit(0, 9) behind a wood", x.unit(0, 9), 0);
        }
    }

    /** "What: 0 its zone, [..] 4 the cells that have a supply cost". */
    private static void whatOfCells() {
        Played x = Scene.busy();
        for (int what : new int[] {-1, 5, Integer.MIN_VALUE, Integer.MAX_VALUE}) {
            Check.refused("cells(0, " + what + ")", IllegalArgumentException.class, () -> x.cells(0, what));
            Check.refused("cells(1, " + what + ")", IllegalArgumentException.class, () -> x.cells(1, what));
        }
    }
}
