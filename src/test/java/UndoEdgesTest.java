import java.util.ArrayList;
import java.util.List;

/** The edges of the promises 1, 2 and 29 to 31. */
public final class UndoEdgesTest {
    private interface Change {
        void make(Played x);
    }

    private static final Change[] CHANGES = {x -> x.setTerrain(40, 2, true), x -> x.setSource(40, 0, true),
        x -> x.set(true, 2), x -> x.set(false, 30), x -> x.add(0, 60, 9, 9), x -> x.move(0, 30),
        x -> x.attack(31, 32), Played::endTurn, x -> {
            Scene.feed(x, "wwwwwwwww/h");
            x.readMap();
        }};

    public static void main(String[] args) {
        nothingToTakeBack();
        eachChangeIsOne();
        changesWithoutAnEffect();
        whatIsNoChange();
        refusedCallsAreNoChanges();
        eightChanges();
        theNinthChangeIsTakenOver();
        changesAfterUndo();
        roundTheEightPlaces();
        undoAfterStart();
        undoAfterRestore();
        undoAfterSave();
        undoLeavesReportAndInput();
        startLeavesNothing();
        startReturnsTheUnits();
        startKeepsWhatWasSaved();
        nothingSaved();
        restoreAgainAndAgain();
        savedInPlaceOfTheEarlier();
        savedWithoutUnits();
        savedWithSixteenUnits();
        savedFlagsAndCounts();
        savedNumberOfTheWeather();
        whatWasSavedStaysAsItWas();
        newObject();
        Check.end();
    }

    /** Two units beside another on 31 and 32, of which all changes can be made. */
    private static Played facing() {
        Played x = new Played();
        x.add(0, 31, 3, 3);
        x.add(1, 32, 3, 3);
        x.add(0, 31, 3, 3);
        x.save();
        return x;
    }

    private static void none(Played x, String when) {
        Check.refusedUnchanged(x, "undo() " + when, IllegalStateException.class, x::undo);
    }

    /** "If there is none". */
    private static void nothingToTakeBack() {
        Played x = new Played();
        none(x, "of a new object");
        x.add(0, 0, 1, 1);
        Check.same("undo() of the first change", x.undo(), 0);
        none(x, "twice");
        Check.same("count(0)", x.count(0), 0);
    }

    /** "A successful call of setTerrain, setSource, set, add, move, attack, endTurn or readMap". */
    private static void eachChangeIsOne() {
        for (int i = 0; i < CHANGES.length; i++) {
            Played x = facing();
            List<String> before = Sight.game(x);
            CHANGES[i].make(x);
            Check.same("the change " + i + " changes something", Sight.game(x).equals(before), false);
            Check.same("undo() of the change " + i, x.undo(), 3);
            Check.sameSight("after the change " + i + " and undo", Sight.game(x), before);
        }
    }

    /** A successful call is a change for undo, even if nothing is other than before. */
    private static void changesWithoutAnEffect() {
        Change[] idle = {x -> x.setTerrain(40, 0, false), x -> x.setSource(40, 0, false), x -> x.set(true, 0),
            x -> x.set(false, 10), Played::readMap, x -> {
                Scene.feed(x, "pp");
                x.readMap();
            }};
        for (int i = 0; i < idle.length; i++) {
            Played x = facing();
            idle[i].make(x);
            Check.same("undo() of the idle change " + i, x.undo(), 3);
            Check.same("undo() of a unit", x.undo(), 2);
            Check.same("count(0)", x.count(0), 2);
        }
    }

    /** Questions, feed, save and errors of readMap take no place among the changes. */
    private static void whatIsNoChange() {
        Change[] others = {x -> x.feed('p'), Played::save, x -> x.reach(0), x -> x.odds(31, 32, true),
            x -> x.cost(0, 0), x -> x.way(0, 0, 1), x -> x.cells(0, 4), x -> x.count(0), Played::balance, x -> {
                x.feed('x');
                x.readMap();
            }};
        for (int i = 0; i < others.length; i++) {
            Played x = facing();
            x.set(true, 1);
            others[i].make(x);
            Check.same("undo() after the call " + i, x.undo(), 3);
            Check.same("count(3)", x.count(3), 0);
        }
    }

    /** "A successful call": refused ones are none. */
    private static void refusedCallsAreNoChanges() {
        Change[] refused = {x -> x.setTerrain(31, 5, false), x -> x.setTerrain(40, 6, false),
            x -> x.setSource(40, 2, true), x -> x.set(true, 3), x -> x.set(false, 0), x -> x.add(1, 31, 1, 1),
            x -> x.add(1, 60, 10, 1), x -> x.move(0, 62), x -> x.move(0, 31), x -> x.move(1, 33),
            x -> x.attack(31, 30), x -> x.attack(31, 33), x -> {
                Scene.feed(x, "~~~~~~~~~/".repeat(4));
                x.readMap();
            }};
        for (int i = 0; i < refused.length; i++) {
            Played x = facing();
            x.set(true, 1);
            Change change = refused[i];
            Check.same("the call " + i + " is refused", isRefused(x, change), true);
            Check.same("undo() after the refused call " + i, x.undo(), 3);
            Check.same("count(3)", x.count(3), 0);
        }
    }

    private static boolean isRefused(Played x, Change change) {
        try {
            change.make(x);
            return false;
        } catch (RuntimeException e) {
            return true;
        }
    }

    /** "At most 8 changes can be taken back", all of them. */
    private static void eightChanges() {
        Played x = new Played();
        List<List<String>> states = new ArrayList<>();
        for (int i = 0; i < 8; i++) {
            states.add(Sight.game(x));
            x.add(i % 2, 7 * i, 1 + i, 1);
        }
        for (int left = 7; left >= 0; left--) {
            Check.same("undo()", x.undo(), left);
            Check.sameSight("with " + left + " changes", Sight.game(x), states.get(left));
        }
        none(x, "after eight");
    }

    /** Of nine changes, the first one stays. */
    private static void theNinthChangeIsTakenOver() {
        for (int changes = 9; changes <= 20; changes++) {
            Played x = new Played();
            for (int i = 1; i <= changes; i++) {
                x.set(false, i);
            }
            for (int left = 7; left >= 0; left--) {
                Check.same("undo() of " + changes, x.undo(), left);
                Check.same("count(4)", x.count(4), changes - 8 + left);
            }
            none(x, "after eight of " + changes);
            Check.same("count(4)", x.count(4), changes - 8);
        }
    }

    /** "The latest change that was not taken back". */
    private static void changesAfterUndo() {
        Played x = new Played();
        for (int i = 1; i <= 8; i++) {
            x.set(false, i);
        }
        Check.same("undo()", x.undo(), 7);
        Check.same("undo()", x.undo(), 6);
        x.set(false, 20);
        Check.same("undo() of a later change", x.undo(), 6);
        Check.same("count(4)", x.count(4), 6);
        Check.same("undo()", x.undo(), 5);
        Check.same("count(4)", x.count(4), 5);
        x.set(false, 21);
        x.set(false, 22);
        x.set(false, 23);
        x.set(false, 24);
        for (int left = 7; left >= 0; left--) {
            Check.same("undo()", x.undo(), left);
            Check.same("count(4)", x.count(4), new int[] {1, 2, 3, 4, 5, 21, 22, 23}[left]);
        }
        none(x, "after eight");
    }

    /** Changes and undos by turns, against a list of the values. */
    private static void roundTheEightPlaces() {
        Played x = new Played();
        List<Integer> values = new ArrayList<>(List.of(10));
        int held = 0;
        for (int i = 0; i < 160; i++) {
            boolean isChange = i * 7 % 11 < 6;
            if (isChange) {
                values.add(1 + i % 30);
                x.set(false, 1 + i % 30);
                held = Math.min(8, held + 1);
            } else if (held == 0) {
                Check.refused("undo()", IllegalStateException.class, x::undo);
            } else {
                held--;
                values.remove(values.size() - 1);
                Check.same("undo() number " + i, x.undo(), held);
            }
            Check.same("count(4) number " + i, x.count(4), values.get(values.size() - 1));
        }
    }

    /** "Since the last call of start, which itself cannot be taken back." */
    private static void undoAfterStart() {
        Played x = facing();
        x.start(0);
        none(x, "after start");
        x.set(true, 1);
        Check.same("undo() of the first change after start", x.undo(), 0);
        none(x, "twice after start");
    }

    /** "No change can be taken back afterwards." */
    private static void undoAfterRestore() {
        Played x = facing();
        x.set(true, 1);
        x.restore();
        none(x, "after restore");
        x.set(true, 2);
        Check.same("undo() of the first change after restore", x.undo(), 0);
        Check.same("count(3)", x.count(3), 0);
        none(x, "twice after restore");
    }

    /** "Saves everything but [..] what can be taken back": that stays after save. */
    private static void undoAfterSave() {
        Played x = facing();
        for (int left = 2; left >= 0; left--) {
            x.save();
            Check.same("undo() after save", x.undo(), left);
        }
        x.save();
        none(x, "after save");
        Check.same("restore() of no units", x.restore(), 0);
    }

    /** What is taken back is the game: the report and the buffer are none of it. */
    private static void undoLeavesReportAndInput() {
        Played x = facing();
        Check.refused("move(0, 62)", UnsupportedOperationException.class, () -> x.move(0, 62));
        x.feed('w');
        List<String> report = Sight.report(x);
        Check.same("undo()", x.undo(), 2);
        Check.same("the report", Sight.report(x), report);
        Check.same("feed", x.feed('h'), 2);
        Check.same("readMap()", x.readMap(), 2);
        Check.same("cell(1, 0)", x.cell(1, 0), 2);
    }

    /** "Begins anew": all that a new object has not. */
    private static void startLeavesNothing() {
        List<String> fresh = Sight.game(new Played());
        Change[] changes = {x -> x.start(0), x -> {
            x.start(Integer.MIN_VALUE);
            x.start(0);
        }};
        for (Change change : changes) {
            Played x = Scene.busy();
            change.make(x);
            Check.sameSight("after start", Sight.game(x), fresh);
            none(x, "after start");
            Played y = Scene.ambushed();
            y.attack(22, 23);
            y.endTurn();
            change.make(y);
            Check.sameSight("after start", Sight.game(y), fresh);
        }
        Played z = facing();
        z.move(0, 30);
        z.attack(31, 32);
        z.start(0);
        for (int unit = 0; unit < 3; unit++) {
            z.add(0, 50, 1, 1);
            Check.same("unit(" + unit + ", 7) after start", z.unit(unit, 7), 1);
            Check.same("unit(" + unit + ", 8) after start", z.unit(unit, 8), 1);
        }
    }

    /** "Returns the number of units that there were." */
    private static void startReturnsTheUnits() {
        Played x = new Played();
        Check.same("start without units", x.start(Integer.MAX_VALUE), 0);
        for (int i = 0; i < 16; i++) {
            x.add(i % 2, 4 * i, i % 2 + 1, 1);
        }
        Check.same("start with 16", x.start(-1), 16);
        Check.same("start again", x.start(-1), 0);
        x.add(0, 0, 1, 1);
        x.add(0, 2, 2, 1);
        x.endTurn();
        Check.same("start after a removal", x.start(0), 1);
    }

    /** "What was saved, the report and the input buffer stay." */
    private static void startKeepsWhatWasSaved() {
        Played x = facing();
        Check.refused("move(0, 62)", UnsupportedOperationException.class, () -> x.move(0, 62));
        x.feed('w');
        List<String> saved = Sight.game(x);
        List<String> report = Sight.report(x);
        x.start(9);
        Check.same("the report after start", Sight.report(x), report);
        Check.same("feed after start", x.feed('m'), 2);
        Check.same("restore() after start", x.restore(), 3);
        Check.sameSight("after restore", Sight.game(x), saved);
        Check.same("readMap()", x.readMap(), 2);
        Check.same("cell(1, 0)", x.cell(1, 0), 4);
    }

    /** "If nothing was saved". */
    private static void nothingSaved() {
        Played x = new Played();
        Check.refusedUnchanged(x, "restore() of a new object", IllegalStateException.class, x::restore);
        x.add(0, 0, 5, 1);
        x.start(0);
        x.add(0, 0, 5, 1);
        Check.refusedUnchanged(x, "restore() after start", IllegalStateException.class, x::restore);
        Check.same("undo() after it", x.undo(), 0);
    }

    /** "Restores what was saved, which stays saved." */
    private static void restoreAgainAndAgain() {
        Played x = facing();
        List<String> saved = Sight.game(x);
        for (Change change : CHANGES) {
            change.make(x);
            Check.same("restore()", x.restore(), 3);
            Check.sameSight("after restore", Sight.game(x), saved);
        }
        Check.same("restore() after restore", x.restore(), 3);
        x.start(4);
        Check.same("restore() after start", x.restore(), 3);
        Check.sameSight("after start and restore", Sight.game(x), saved);
    }

    /** "In place of what was saved before." */
    private static void savedInPlaceOfTheEarlier() {
        Played x = facing();
        x.add(0, 0, 1, 1);
        Check.same("save()", x.save(), 4);
        x.undo();
        x.undo();
        Check.same("restore()", x.restore(), 4);
        x.start(0);
        Check.same("save() of nothing", x.save(), 0);
        x.add(0, 0, 1, 1);
        Check.same("restore() of nothing", x.restore(), 0);
    }

    /** "Returns the number of units": 0. */
    private static void savedWithoutUnits() {
        Played x = new Played();
        Check.same("save()", x.save(), 0);
        for (int i = 0; i < 3; i++) {
            x.add(1, i, 5, 1);
        }
        Check.same("restore()", x.restore(), 0);
        Check.sameSight("after restore", Sight.game(x), Sight.game(new Played()));
    }

    /** "Returns the number of units": 16. */
    private static void savedWithSixteenUnits() {
        Played x = new Played();
        for (int i = 0; i < 16; i++) {
            x.add(0, 3 * i, i == 15 ? 1 : 2, 1);
        }
        Check.same("save()", x.save(), 16);
        x.endTurn();
        Check.same("save() would be 15", x.count(0), 15);
        Check.same("restore()", x.restore(), 16);
        Check.same("unit(15, 2)", x.unit(15, 2), 1);
        Check.refused("the 17th unit", IllegalStateException.class, () -> x.add(0, 62, 1, 1));
    }

    /** "Saves everything": who has moved and attacked, accounts, ambushes and attacks, sources, roads. */
    private static void savedFlagsAndCounts() {
        Played x = facing();
        x.move(0, 30);
        x.attack(31, 32);
        x.save();
        List<String> saved = Sight.game(x);
        x.endTurn();
        x.endTurn();
        x.restore();
        Check.sameSight("after two turns and restore", Sight.game(x), saved);
        Check.same("unit(0, 7)", x.unit(0, 7), 0);
        Check.same("unit(0, 8)", x.unit(0, 8), 1);
        Check.same("unit(2, 8)", x.unit(2, 8), 0);
        Played y = Scene.ambushed();
        y.save();
        saved = Sight.game(y);
        y.start(0);
        y.restore();
        Check.sameSight("after an ambush, start and restore", Sight.game(y), saved);
        Check.same("count(6)", y.count(6), 1);
        Played z = Scene.busy();
        z.save();
        saved = Sight.game(z);
        z.start(0);
        z.restore();
        Check.sameSight("after much, start and restore", Sight.game(z), saved);
    }

    private static String weathers(Played x) {
        StringBuilder all = new StringBuilder();
        for (int i = 0; i < 12; i++) {
            x.endTurn();
            x.endTurn();
            all.append(x.count(3));
        }
        return all.toString();
    }

    /** "Saves everything": the number z, too. */
    private static void savedNumberOfTheWeather() {
        Played x = new Played();
        x.start(7);
        x.endTurn();
        x.endTurn();
        x.save();
        String due = weathers(x);
        x.start(8);
        x.restore();
        Check.same("the weather after restore", weathers(x), due);
        Check.same("count(1)", x.count(1), 13);
    }

    /** What is done after save and after restore changes nothing of what was saved. */
    private static void whatWasSavedStaysAsItWas() {
        Played x = facing();
        List<String> saved = Sight.game(x);
        for (int i = 0; i < CHANGES.length; i++) {
            for (Change change : CHANGES) {
                isRefused(x, change);
            }
            x.restore();
            CHANGES[i].make(x);
            x.undo();
            Check.sameSight("after the change " + i + " and undo", Sight.game(x), saved);
        }
    }

    /** "Creates a map of plains without units, with the seed 0." */
    private static void newObject() {
        Played x = new Played();
        Played y = new Played();
        y.start(0);
        Check.sameSight("a new object and start(0)", Sight.of(x), Sight.of(y));
        Check.same("count(0)", x.count(0), 0);
        Check.same("text", Scene.text(x), "ppppppppp/".repeat(7).substring(0, 69));
    }
}
