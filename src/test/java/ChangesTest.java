import java.util.ArrayList;
import java.util.List;
import java.util.function.Consumer;
import java.util.regex.Pattern;

/** What each change changes of all that a game holds; all else of it stays as it was. */
public final class ChangesTest {
    private static final Pattern HELD =
            Pattern.compile("(?:count|account|cell|text) .*|cells . 2: .*|unit \\d+ [012378]: .*");

    public static void main(String[] args) {
        terrain();
        sources();
        weatherAndRange();
        newUnits();
        moves();
        attacks();
        retreats();
        endsOfTurns();
        maps();
        noChanges();
        Check.end();
    }

    /**
     * On the turn of side 0: units 0 and 1 of side 0 on 20 and 21 with supply from 18, unit 2 of side 1 on
     * 22 with supply from 26, unit 3 of side 1 on 62 without; 40 is a swamp with a road and a source of both.
     */
    private static Played game() {
        Played x = new Played();
        x.setSource(18, 0, true);
        x.setSource(26, 1, true);
        x.setTerrain(40, 3, true);
        x.setSource(40, 0, true);
        x.setSource(40, 1, true);
        x.set(false, 3);
        x.add(0, 20, 3, 4);
        x.add(0, 21, 5, 4);
        x.add(1, 22, 4, 4);
        x.add(1, 62, 1, 4);
        return x;
    }

    private static List<String> held(Played x) {
        List<String> found = new ArrayList<>(Sight.game(x));
        found.removeIf(line -> !HELD.matcher(line).matches());
        return found;
    }

    private static void changes(String what, Played x, Consumer<Played> call, String... dues) {
        List<String> before = held(x);
        call.accept(x);
        List<String> after = held(x);
        List<String> changed = new ArrayList<>();
        for (int i = 0; i < before.size(); i++) {
            if (!before.get(i).equals(after.get(i))) {
                changed.add(before.get(i) + " >" + after.get(i).substring(after.get(i).lastIndexOf(' ')));
            }
        }
        Check.same(what + " changes", changed, List.of(dues));
    }

    /** "Sets the terrain of a cell": whether it is a source stays, also under water. */
    private static void terrain() {
        changes("setTerrain(40, 5, false)", game(), x -> x.setTerrain(40, 5, false),
                "cell 40 0: 3 > 5", "cell 40 1: 1 > 0", "text 44: S > ~");
        changes("setTerrain(0, 4, true)", game(), x -> x.setTerrain(0, 4, true),
                "cell 0 0: 0 > 4", "cell 0 1: 0 > 1", "text 0: p > M");
        changes("setTerrain(20, 2, false)", game(), x -> x.setTerrain(20, 2, false),
                "cell 20 0: 0 > 2", "text 22: p > h");
    }

    private static void sources() {
        changes("setSource(40, 0, false)", game(), x -> x.setSource(40, 0, false),
                "cells 0 2: 1099511889920 > 262144", "cell 40 2: 3 > 2");
        changes("setSource(40, 1, false)", game(), x -> x.setSource(40, 1, false),
                "cells 1 2: 1099578736640 > 67108864", "cell 40 2: 3 > 1");
        changes("setSource(62, 1, true)", game(), x -> x.setSource(62, 1, true),
                "cells 1 2: 1099578736640 > 4611687118006124544", "cell 62 2: 0 > 2");
    }

    private static void weatherAndRange() {
        changes("set(true, 2)", game(), x -> x.set(true, 2),
                "count 3: 0 > 2", "count 5: 4 > 3");
        changes("set(false, 30)", game(), x -> x.set(false, 30),
                "count 4: 3 > 30");
    }

    private static void newUnits() {
        changes("add(0, 21, 7, 12)", game(), x -> x.add(0, 21, 7, 12),
                "count 0: 4 > 5", "account 0 0: 8 > 15", "account 0 1: 8 > 15", "account 0 4: 2 > 3",
                "cell 21 3: 2 > 18", "cell 21 4: 5 > 12", "unit 4 0: IndexOutOfBoundsException > 0",
                "unit 4 1: IndexOutOfBoundsException > 21", "unit 4 2: IndexOutOfBoundsException > 7",
                "unit 4 3: IndexOutOfBoundsException > 12", "unit 4 7: IndexOutOfBoundsException > 1",
                "unit 4 8: IndexOutOfBoundsException > 1");
        changes("add(1, 61, 9, 1)", game(), x -> x.add(1, 61, 9, 1),
                "count 0: 4 > 5", "account 1 0: 5 > 14", "account 1 1: 5 > 14", "account 1 4: 2 > 3",
                "cell 61 3: 0 > 16", "cell 61 4: 0 > 9", "unit 4 0: IndexOutOfBoundsException > 1",
                "unit 4 1: IndexOutOfBoundsException > 61", "unit 4 2: IndexOutOfBoundsException > 9",
                "unit 4 3: IndexOutOfBoundsException > 1", "unit 4 7: IndexOutOfBoundsException > 0",
                "unit 4 8: IndexOutOfBoundsException > 0");
    }

    private static void moves() {
        changes("move(0, 19)", game(), x -> x.move(0, 19),
                "cell 19 3: 0 > 1", "cell 19 4: 0 > 3", "cell 20 3: 1 > 0", "cell 20 4: 3 > 0",
                "unit 0 1: 20 > 19", "unit 0 7: 1 > 0");
        Played ambush = Scene.hiddenAt23("PPPPMPPPP");
        changes("an ambush", ambush, x -> x.move(0, 24),
                "count 6: 0 > 1", "cell 18 3: 1 > 0", "cell 18 4: 5 > 0", "cell 22 3: 0 > 1",
                "cell 22 4: 0 > 5", "unit 0 1: 18 > 22", "unit 0 7: 1 > 0");
    }

    private static void attacks() {
        changes("an attack with the result 1", game(), x -> x.attack(21, 22),
                "count 7: 0 > 1", "account 0 1: 8 > 7", "account 0 2: 0 > 1", "account 1 1: 5 > 4",
                "account 1 2: 0 > 1", "cell 21 4: 5 > 4", "cell 22 4: 4 > 3", "unit 1 2: 5 > 4",
                "unit 1 7: 1 > 0", "unit 1 8: 1 > 0", "unit 2 2: 4 > 3");
        Played failed = game();
        failed.setTerrain(22, 2, false);
        changes("an attack with the result 0", failed, x -> x.attack(21, 22),
                "count 7: 0 > 1", "account 0 1: 8 > 7", "account 0 2: 0 > 1", "cell 21 4: 5 > 4",
                "unit 1 2: 5 > 4", "unit 1 7: 1 > 0", "unit 1 8: 1 > 0");
    }

    private static void retreats() {
        Played x = game();
        x.add(0, 21, 7, 1);
        changes("an attack with the result 2", x, y -> y.attack(21, 22),
                "count 7: 0 > 1", "account 1 1: 5 > 4", "account 1 2: 0 > 1", "cell 13 3: 0 > 4",
                "cell 13 4: 0 > 3", "cell 22 3: 4 > 0", "cell 22 4: 4 > 0", "unit 1 7: 1 > 0",
                "unit 1 8: 1 > 0", "unit 2 1: 22 > 13", "unit 2 2: 4 > 3", "unit 4 7: 1 > 0",
                "unit 4 8: 1 > 0");
    }

    private static void endsOfTurns() {
        Played x = game();
        x.move(0, 19);
        x.attack(21, 22);
        changes("endTurn() of side 0", x, Played::endTurn,
                "count 2: 0 > 1", "unit 0 8: 1 > 0", "unit 2 7: 0 > 1", "unit 2 8: 0 > 1", "unit 3 7: 0 > 1",
                "unit 3 8: 0 > 1");
        changes("endTurn() of side 1", x, Played::endTurn,
                "count 0: 4 > 3", "count 1: 0 > 1", "count 2: 1 > 0", "account 1 1: 4 > 3",
                "account 1 3: 0 > 1", "account 1 4: 2 > 1", "account 1 5: 0 > 1", "cell 62 3: 8 > 0",
                "cell 62 4: 1 > 0", "unit 0 7: 0 > 1", "unit 0 8: 0 > 1", "unit 1 7: 0 > 1",
                "unit 1 8: 0 > 1", "unit 2 7: 1 > 0", "unit 2 8: 1 > 0",
                "unit 3 0: 1 > IndexOutOfBoundsException", "unit 3 1: 62 > IndexOutOfBoundsException",
                "unit 3 2: 1 > IndexOutOfBoundsException", "unit 3 3: 4 > IndexOutOfBoundsException",
                "unit 3 7: 1 > IndexOutOfBoundsException", "unit 3 8: 1 > IndexOutOfBoundsException");
    }

    private static void maps() {
        Played x = game();
        Scene.feed(x, "wH~pppppp/S");
        changes("readMap()", x, Played::readMap,
                "cell 0 0: 0 > 1", "cell 1 0: 0 > 2", "cell 1 1: 0 > 1", "cell 2 0: 0 > 5", "cell 9 0: 0 > 3",
                "cell 9 1: 0 > 1", "text 0: p > w", "text 1: p > H", "text 2: p > ~", "text 10: p > S");
        Played y = game();
        Scene.feed(y, "ppppppppp/ppppppppp/ppppppppp/ppppppppp/pppp~");
        changes("readMap() of a source that becomes water", y, Played::readMap,
                "cell 40 0: 3 > 5", "cell 40 1: 1 > 0", "text 44: S > ~");
    }

    /** What is no change of the game. */
    private static void noChanges() {
        changes("feed", game(), x -> x.feed('p'));
        changes("save", game(), Played::save);
        changes("a refused move", game(), x -> Check.refused("move(0, 22)",
                UnsupportedOperationException.class, () -> x.move(0, 22)));
        changes("undo of a move", game(), x -> {
            x.move(0, 19);
            x.undo();
        });
        changes("restore", game(), x -> {
            x.save();
            x.start(1);
            x.restore();
        });
    }
}
