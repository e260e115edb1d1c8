import java.util.ArrayList;
import java.util.List;

/** Promises 29 to 31: undo, save and restore. */
public final class UndoTest {
    public static void main(String[] args) {
        promise29EachChange();
        promise29LossesAndAmbushes();
        promise29Order();
        promise29MostChanges();
        promise29NotWhatIsNoChange();
        promise29WeatherAndNumbers();
        promise30And31SaveAndRestore();
        promise31RestoresOtherUnits();
        promise31NothingSaved();
        promise31KeepsReportAndInput();
        Check.end();
    }

    private static void takenBack(String what, Played x, Runnable change) {
        List<String> before = Sight.game(x);
        change.run();
        x.undo();
        Check.sameSight("state after undo of " + what, Sight.game(x), before);
    }

    private static void promise29EachChange() {
        Played x = Scene.busy();
        x.add(0, 23, 3, 3);
        takenBack("setTerrain", x, () -> x.setTerrain(30, 4, true));
        takenBack("setSource", x, () -> x.setSource(30, 0, true));
        takenBack("set(true)", x, () -> x.set(true, 1));
        takenBack("set(false)", x, () -> x.set(false, 1));
        takenBack("add", x, () -> x.add(1, 40, 9, 9));
        takenBack("attack", x, () -> x.attack(24, 23));
        takenBack("endTurn", x, x::endTurn);
        takenBack("readMap", x, () -> {
            Scene.feed(x, "hhhhhhhhh/hhh");
            x.readMap();
        });
        x.endTurn();
        takenBack("endTurn of side 0", x, x::endTurn);
        takenBack("move", x, () -> x.move(0, 18));
        takenBack("attack of side 0", x, () -> x.attack(23, 24));
    }

    private static void promise29LossesAndAmbushes() {
        Played x = new Played();
        x.add(0, 20, 1, 3);
        takenBack("endTurn that removes a unit", x, () -> {
            Check.same("endTurn()", x.endTurn(), 1);
            Check.same("account(0, 5)", x.account(0, 5), 1);
        });
        Played y = Scene.hiddenAt23("PPPPMPPPP");
        takenBack("move into an ambush", y, () -> {
            y.move(0, 24);
            Check.same("count(6)", y.count(6), 1);
        });
    }

    private static void promise29Order() {
        Played x = new Played();
        List<List<String>> states = new ArrayList<>();
        for (int i = 0; i < 7; i++) {
            states.add(Sight.game(x));
            x.add(i % 2, 9 * i, 1 + i, 1);
        }
        for (int i = 6; i >= 0; i--) {
            Check.same("undo()", x.undo(), i);
            Check.sameSight("state " + i, Sight.game(x), states.get(i));
        }
        Check.refusedUnchanged(x, "undo()", IllegalStateException.class, x::undo);
        x.set(true, 1);
        x.set(true, 2);
        x.undo();
        x.set(true, 0);
        Check.same("undo()", x.undo(), 1);
        Check.same("count(3)", x.count(3), 1);
        Check.same("undo()", x.undo(), 0);
        Check.same("count(3)", x.count(3), 0);
    }

    private static void promise29MostChanges() {
        Played x = new Played();
        for (int value = 11; value <= 30; value++) {
            x.set(false, value);
        }
        for (int left = 7; left >= 0; left--) {
            Check.same("undo()", x.undo(), left);
            Check.same("count(4)", x.count(4), 22 + left);
        }
        Check.refusedUnchanged(x, "the ninth undo()", IllegalStateException.class, x::undo);
        x.set(false, 1);
        Check.same("undo()", x.undo(), 0);
        Check.same("count(4)", x.count(4), 22);
    }

    private static void promise29NotWhatIsNoChange() {
        Played x = new Played();
        Check.refused("undo()", IllegalStateException.class, x::undo);
        x.set(true, 0);
        x.save();
        x.feed('p');
        x.feed('x');
        x.readMap();
        x.cells(0, 1);
        Check.refused("move(0, 1)", IndexOutOfBoundsException.class, () -> x.move(0, 1));
        Check.same("undo() of a set that sets the same", x.undo(), 0);
        x.setSource(0, 0, false);
        x.readMap();
        Check.same("undo() of an empty readMap", x.undo(), 1);
        x.start(0);
        Check.refused("undo() of start", IllegalStateException.class, x::undo);
    }

    private static void promise29WeatherAndNumbers() {
        Played x = new Played();
        x.start(1);
        StringBuilder weathers = new StringBuilder();
        for (int round = 0; round < 12; round++) {
            x.endTurn();
            x.endTurn();
            x.undo();
            x.endTurn();
            weathers.append(x.count(3));
        }
        Check.same("weather", weathers.toString(), "001110020002");
        x.add(0, 20, 1, 1);
        x.undo();
        Check.same("the number of a unit that was taken back", x.add(1, 20, 1, 1), 0);
    }

    private static void promise30And31SaveAndRestore() {
        Played x = Scene.busy();
        x.start(1);
        x.setSource(5, 0, true);
        x.add(0, 20, 3, 3);
        x.add(1, 24, 9, 3);
        x.add(0, 23, 4, 1);
        x.move(0, 21);
        x.attack(23, 24);
        List<String> before = Sight.game(x);
        Check.same("save()", x.save(), 3);
        Check.sameSight("state after save", Sight.game(x), before);
        Check.same("undo() after save", x.undo(), 5);
        x.endTurn();
        x.endTurn();
        x.add(0, 40, 1, 1);
        for (int i = 0; i < 2; i++) {
            Check.same("restore()", x.restore(), 3);
            Check.sameSight("state after restore", Sight.game(x), before);
            Check.refused("undo() after restore", IllegalStateException.class, x::undo);
            Check.same("the next number", x.add(1, 0, 1, 1), 3);
            Check.same("undo()", x.undo(), 0);
            x.start(99);
        }
        x.restore();
        StringBuilder weathers = new StringBuilder();
        for (int round = 0; round < 12; round++) {
            x.endTurn();
            x.endTurn();
            weathers.append(x.count(3));
        }
        Check.same("weather of the saved seed", weathers.toString(), "001110020002");
        Check.same("save() in its place", x.save(), x.count(0));
        x.start(0);
        Check.same("restore()", x.restore(), 2);
        Check.same("count(1)", x.count(1), 12);
    }

    private static void promise31RestoresOtherUnits() {
        Played x = new Played();
        x.add(1, 20, 3, 3);
        List<String> before = Sight.game(x);
        x.save();
        x.start(0);
        x.add(0, 21, 4, 12);
        x.add(1, 22, 2, 12);
        Check.same("restore()", x.restore(), 1);
        Check.sameSight("state after restore", Sight.game(x), before);
    }

    private static void promise31NothingSaved() {
        Played x = new Played();
        x.set(true, 1);
        Check.refusedUnchanged(x, "restore()", IllegalStateException.class, x::restore);
        Check.same("undo() after it", x.undo(), 0);
        Check.same("save() without units", x.save(), 0);
        Check.same("restore() without units", x.restore(), 0);
    }

    private static void promise31KeepsReportAndInput() {
        Played x = new Played();
        x.save();
        x.add(0, 20, 1, 1);
        Check.refused("move(0, 22)", UnsupportedOperationException.class, () -> x.move(0, 22));
        x.feed('s');
        List<String> report = Sight.report(x);
        x.restore();
        Check.same("report after restore", Sight.report(x), report);
        Check.same("feed after restore", x.feed('s'), 2);
        Check.same("readMap()", x.readMap(), 2);
        Check.same("cell(1, 0)", x.cell(1, 0), 3);
        x.feed('m');
        x.undo();
        Check.same("feed after undo", x.feed('m'), 2);
    }
}
