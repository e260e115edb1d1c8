import java.util.List;
import java.util.NoSuchElementException;

/** Promises 1 to 9: a new object, start, the map and the counts. */
public final class MapTest {
    private static final String PLAINS = ("ppppppppp/").repeat(7).substring(0, 69);

    public static void main(String[] args) {
        promise1NewObject();
        promise2Start();
        promise2Everything();
        promise2WeatherOfSeeds();
        promise2KeepsSavedReportAndInput();
        promise3SetTerrain();
        promise3Refusals();
        promise4SetSource();
        promise5Set();
        promise6Cell();
        promise7Neighbor();
        promise8Distance();
        promise9Count();
        Check.end();
    }

    private static void isNew(String what, Played x) {
        Check.same(what + ": text", Scene.text(x), PLAINS);
        int[] counts = {0, 0, 0, 0, 10, 4, 0, 0};
        for (int i = 0; i < counts.length; i++) {
            Check.same(what + ": count " + i, x.count(i), counts[i]);
        }
        for (int side = 0; side < 2; side++) {
            Check.same(what + ": sources", x.cells(side, 2), 0L);
            for (int i = 0; i < 6; i++) {
                Check.same(what + ": account " + i, x.account(side, i), 0);
            }
        }
        Check.refused(what + ": unit(0, 0)", IndexOutOfBoundsException.class, () -> x.unit(0, 0));
        Check.refused(what + ": undo()", IllegalStateException.class, x::undo);
    }

    private static void promise1NewObject() {
        Played x = new Played();
        isNew("new", x);
        Check.refused("report(0, 0)", NoSuchElementException.class, () -> x.report(0, 0));
        Check.refused("restore()", IllegalStateException.class, x::restore);
        Check.same("weather of the seed 0", weathers(x, 12), "000101011121");
    }

    private static void promise2Start() {
        Played x = Scene.busy();
        Check.same("start after 4 units, one of them removed", x.start(0), 3);
        isNew("start", x);
        Check.same("first unit after start", x.add(1, 5, 1, 1), 0);
        Check.same("start", x.start(-9), 1);
        isNew("second start", x);
    }

    private static void promise2Everything() {
        Played x = Scene.ambushed();
        x.attack(22, 23);
        x.endTurn();
        x.setSource(18, 0, false);
        x.endTurn();
        x.endTurn();
        Check.same("lost for lack of supply", x.account(0, 3) > 0 && x.account(1, 3) > 0, true);
        Check.same("lost in an attack", x.account(0, 2), 1);
        Check.same("ambushes", x.count(6), 1);
        x.endTurn();
        x.attack(22, 23);
        x.add(0, 18, 1, 4);
        x.move(2, 19);
        x.start(0);
        isNew("start after losses", x);
        for (int unit = 0; unit < 3; unit++) {
            x.add(0, 20, 1, 1);
            Check.same("unit(" + unit + ", 7)", x.unit(unit, 7), 1);
            Check.same("unit(" + unit + ", 8)", x.unit(unit, 8), 1);
        }
    }

    private static String weathers(Played x, int rounds) {
        StringBuilder all = new StringBuilder();
        for (int i = 0; i < rounds; i++) {
            x.endTurn();
            x.endTurn();
            all.append(x.count(3));
        }
        return all.toString();
    }

    private static void promise2WeatherOfSeeds() {
        int[] seeds = {1, 7, -1, Integer.MAX_VALUE, Integer.MIN_VALUE};
        String[] dues = {"001110020002", "000020002021", "021001100021", "200010021100", "001000100010"};
        Played x = new Played();
        for (int i = 0; i < seeds.length; i++) {
            x.start(seeds[i]);
            Check.same("weather of the seed " + seeds[i], weathers(x, 12), dues[i]);
        }
    }

    private static void promise2KeepsSavedReportAndInput() {
        Played x = new Played();
        x.add(0, 20, 4, 1);
        x.save();
        Check.refused("move(0, 40)", UnsupportedOperationException.class, () -> x.move(0, 40));
        List<String> report = Sight.report(x);
        x.feed('w');
        x.start(3);
        Check.same("report after start", Sight.report(x), report);
        Check.same("feed after start", x.feed('h'), 2);
        Check.same("readMap after start", x.readMap(), 2);
        Check.same("cell(0, 0)", x.cell(0, 0), 1);
        Check.same("restore after start", x.restore(), 1);
        Check.same("unit(0, 1)", x.unit(0, 1), 20);
    }

    private static void promise3SetTerrain() {
        Played x = new Played();
        Check.same("setTerrain(0, 4, true)", x.setTerrain(0, 4, true), 0);
        Check.same("cell(0, 0)", x.cell(0, 0), 4);
        Check.same("cell(0, 1)", x.cell(0, 1), 1);
        Check.same("setTerrain(0, 5, false)", x.setTerrain(0, 5, false), 4);
        Check.same("cell(0, 1) of water", x.cell(0, 1), 0);
        Check.same("setTerrain(0, 0, true)", x.setTerrain(0, 0, true), 5);
        for (int terrain = 0; terrain <= 5; terrain++) {
            x.setTerrain(62, terrain, terrain % 2 == 0);
            Check.same("cell(62, 0)", x.cell(62, 0), terrain);
            Check.same("cell(62, 1)", x.cell(62, 1), 1 - terrain % 2);
        }
        Check.same("cell(61, 0)", x.cell(61, 0), 0);
        x.add(0, 30, 1, 1);
        Check.same("a swamp under a unit", x.setTerrain(30, 3, false), 0);
    }

    private static void promise3Refusals() {
        Played x = new Played();
        x.add(1, 30, 1, 1);
        x.setTerrain(31, 2, true);
        for (int cell : new int[] {-1, 63, Integer.MIN_VALUE, Integer.MAX_VALUE}) {
            Check.refusedUnchanged(x, "setTerrain of no cell", IndexOutOfBoundsException.class,
                    () -> x.setTerrain(cell, 9, true));
        }
        for (int terrain : new int[] {-1, 6, Integer.MIN_VALUE, Integer.MAX_VALUE}) {
            Check.refusedUnchanged(x, "setTerrain of no terrain", IllegalArgumentException.class,
                    () -> x.setTerrain(31, terrain, false));
        }
        Check.refusedUnchanged(x, "water with a road", IllegalArgumentException.class,
                () -> x.setTerrain(30, 5, true));
        Check.refusedUnchanged(x, "water under a unit", IllegalStateException.class,
                () -> x.setTerrain(30, 5, false));
        Check.same("undo() after refusals", x.undo(), 1);
    }

    private static void promise4SetSource() {
        Played x = new Played();
        Check.same("setSource(7, 1, true)", x.setSource(7, 1, true), false);
        Check.same("setSource(7, 1, true)", x.setSource(7, 1, true), true);
        Check.same("cell(7, 2)", x.cell(7, 2), 2);
        Check.same("setSource(7, 0, true)", x.setSource(7, 0, true), false);
        Check.same("cell(7, 2)", x.cell(7, 2), 3);
        Check.same("setSource(7, 1, false)", x.setSource(7, 1, false), true);
        Check.same("setSource(7, 1, false)", x.setSource(7, 1, false), false);
        Check.same("cell(7, 2)", x.cell(7, 2), 1);
        x.setTerrain(62, 5, false);
        Check.same("a source on water", x.setSource(62, 1, true), false);
        Check.same("cells(1, 2)", x.cells(1, 2), 1L << 62);
        Check.refusedUnchanged(x, "setSource(63, 0, true)", IndexOutOfBoundsException.class,
                () -> x.setSource(63, 0, true));
        Check.refusedUnchanged(x, "setSource(-1, 0, true)", IndexOutOfBoundsException.class,
                () -> x.setSource(-1, 0, true));
        Check.refusedUnchanged(x, "setSource(7, 2, true)", IndexOutOfBoundsException.class,
                () -> x.setSource(7, 2, true));
        Check.refusedUnchanged(x, "setSource(7, -1, true)", IndexOutOfBoundsException.class,
                () -> x.setSource(7, -1, true));
        Check.same("undo() after refusals", x.undo(), 6);
    }

    private static void promise5Set() {
        Played x = new Played();
        Check.same("set(true, 2)", x.set(true, 2), 0);
        Check.same("set(true, 1)", x.set(true, 1), 2);
        Check.same("set(true, 0)", x.set(true, 0), 1);
        Check.same("set(false, 30)", x.set(false, 30), 10);
        Check.same("set(false, 1)", x.set(false, 1), 30);
        Check.same("count(4)", x.count(4), 1);
        Check.same("count(3)", x.count(3), 0);
        for (int value : new int[] {0, 31, -1, Integer.MAX_VALUE, Integer.MIN_VALUE}) {
            Check.refusedUnchanged(x, "set(false, " + value + ")", IllegalArgumentException.class,
                    () -> x.set(false, value));
        }
        for (int value : new int[] {3, -1, Integer.MAX_VALUE, Integer.MIN_VALUE}) {
            Check.refusedUnchanged(x, "set(true, " + value + ")", IllegalArgumentException.class,
                    () -> x.set(true, value));
        }
        Check.same("undo() after refusals", x.undo(), 4);
        Check.same("count(4) after undo", x.count(4), 30);
    }

    private static void promise6Cell() {
        Played x = new Played();
        x.add(0, 20, 4, 1);
        x.add(1, 30, 9, 1);
        x.add(0, 20, 3, 1);
        x.setTerrain(20, 2, true);
        x.setSource(20, 1, true);
        int[] dues = {2, 1, 2, 0b101, 7};
        for (int what = 0; what < dues.length; what++) {
            Check.same("cell(20, " + what + ")", x.cell(20, what), dues[what]);
        }
        Check.same("cell(30, 3)", x.cell(30, 3), 0b10);
        Check.same("cell(0, 3)", x.cell(0, 3), 0);
        Check.same("cell(0, 4)", x.cell(0, 4), 0);
        Check.refused("cell(63, 9)", IndexOutOfBoundsException.class, () -> x.cell(63, 9));
        Check.refused("cell(-1, 0)", IndexOutOfBoundsException.class, () -> x.cell(-1, 0));
        Check.refused("cell(0, 5)", IllegalArgumentException.class, () -> x.cell(0, 5));
        Check.refused("cell(0, -1)", IllegalArgumentException.class, () -> x.cell(0, -1));
    }

    private static void promise7Neighbor() {
        Played x = new Played();
        int[] ofEven = {21, 11, 10, 19, 28, 29};
        int[] ofOdd = {31, 22, 21, 29, 39, 40};
        for (int direction = 0; direction < 6; direction++) {
            Check.same("neighbor(20, " + direction + ")", x.neighbor(20, direction), ofEven[direction]);
            Check.same("neighbor(30, " + direction + ")", x.neighbor(30, direction), ofOdd[direction]);
        }
        int[][] missing = {{0, 1}, {0, 2}, {0, 3}, {0, 4}, {8, 0}, {8, 1}, {8, 2}, {9, 3}, {17, 0}, {17, 1},
            {17, 5}, {18, 2}, {18, 3}, {18, 4}, {26, 0}, {54, 4}, {54, 5}, {62, 0}, {62, 4}, {62, 5}};
        for (int[] m : missing) {
            Check.refused("neighbor(" + m[0] + ", " + m[1] + ")", NoSuchElementException.class,
                    () -> x.neighbor(m[0], m[1]));
        }
        Check.same("neighbor(17, 4)", x.neighbor(17, 4), 26);
        Check.same("neighbor(26, 5)", x.neighbor(26, 5), 35);
        int[][] outside = {{63, 0}, {-1, 0}, {0, 6}, {0, -1}, {Integer.MAX_VALUE, 2}, {5, Integer.MIN_VALUE}};
        for (int[] o : outside) {
            Check.refused("neighbor(" + o[0] + ", " + o[1] + ")", IndexOutOfBoundsException.class,
                    () -> x.neighbor(o[0], o[1]));
        }
    }

    private static void promise8Distance() {
        for (int one = 0; one < 63; one++) {
            Played x = new Played();
            int[] due = Scene.stepsFrom(x, one);
            for (int other = 0; other < 63; other++) {
                Check.same("distance(" + one + ", " + other + ")", x.distance(one, other), due[other]);
            }
        }
        Played x = new Played();
        x.setTerrain(1, 5, false);
        Check.same("distance over water", x.distance(0, 2), 2);
        for (int cell : new int[] {-1, 63, Integer.MIN_VALUE, Integer.MAX_VALUE}) {
            Check.refused("distance", IndexOutOfBoundsException.class, () -> x.distance(cell, 0));
            Check.refused("distance", IndexOutOfBoundsException.class, () -> x.distance(0, cell));
        }
    }

    private static void promise9Count() {
        Played x = Scene.busy();
        int[] dues = {3, 1, 1, 2, 30, 3, 0, 1};
        for (int what = 0; what < dues.length; what++) {
            Check.same("count(" + what + ")", x.count(what), dues[what]);
        }
        int[] sights = {4, 2, 3};
        for (int weather = 0; weather < 3; weather++) {
            x.set(true, weather);
            Check.same("count(5)", x.count(5), sights[weather]);
        }
        for (int what : new int[] {-1, 8, Integer.MIN_VALUE, Integer.MAX_VALUE}) {
            Check.refused("count(" + what + ")", IllegalArgumentException.class, () -> x.count(what));
        }
    }
}
