import java.util.List;
import java.util.NoSuchElementException;

/** Promises 25 to 28: reports, the input buffer and the texts of maps. */
public final class TextTest {
    private static final String WHOLE = "pwhsm~PWH/SM~msh~~w/ppppppppp/wwwwwwwww/MMMMMMMMM/sssssssss/~~~~~~~~p";

    public static void main(String[] args) {
        promise25Report();
        promise26Feed();
        promise27WholeMap();
        promise27EndsAnywhere();
        promise27Errors();
        promise27WaterUnderUnits();
        promise27WaterUnderTheFirstAndTheLast();
        promise28Text();
        Check.end();
    }

    private static void promise25Report() {
        Played x = new Played();
        for (int level : new int[] {0, -1, 1, Integer.MIN_VALUE, Integer.MAX_VALUE}) {
            Check.refused("report without one", NoSuchElementException.class, () -> x.report(level, 9));
        }
        x.add(0, 20, 3, 3);
        Check.refused("move(0, 62)", UnsupportedOperationException.class, () -> x.move(0, 62));
        int[] dues = {1, 0, 3, 8, 5, 2};
        for (int i = 0; i < dues.length; i++) {
            Check.same("report(" + i / 2 + ", " + i % 2 + ")", x.report(i / 2, i % 2), dues[i]);
        }
        for (int what : new int[] {-1, 2, Integer.MIN_VALUE, Integer.MAX_VALUE}) {
            Check.refused("report(2, " + what + ")", IllegalArgumentException.class, () -> x.report(2, what));
            Check.refused("report(3, " + what + ")", NoSuchElementException.class, () -> x.report(3, what));
        }
        x.undo();
        Check.same("a report stays after undo", x.report(1, 1), 8);
        x.save();
        x.restore();
        Check.same("a report stays after restore", x.report(2, 1), 2);
    }

    private static void promise26Feed() {
        Played x = new Played();
        for (int i = 1; i <= 80; i++) {
            Check.same("feed " + i, x.feed((char) (i * 819)), i);
        }
        Check.refusedUnchanged(x, "feed 81", IllegalStateException.class, () -> x.feed('p'));
        Check.same("readMap()", x.readMap(), -100);
        Check.same("feed after readMap", x.feed('\u0000'), 1);
        Check.same("readMap()", x.readMap(), -100);
        Check.same("readMap()", x.readMap(), 0);
    }

    private static void promise27WholeMap() {
        Played x = new Played();
        Scene.feed(x, WHOLE);
        Check.same("readMap()", x.readMap(), 63);
        Check.same("text", Scene.text(x), WHOLE);
        Check.same("cell(6, 1)", x.cell(6, 1), 1);
        Check.same("cell(10, 0)", x.cell(10, 0), 4);
        Check.same("cell(12, 1)", x.cell(12, 1), 0);
        Check.same("feed after readMap", x.feed('w'), 1);
        Check.same("readMap()", x.readMap(), 1);
        Check.same("text", Scene.text(x), "w" + WHOLE.substring(1));
    }

    private static void promise27EndsAnywhere() {
        for (int end = 0; end <= WHOLE.length(); end++) {
            Played x = new Played();
            x.setTerrain(62, 3, true);
            x.setTerrain(0, 3, true);
            String before = Scene.text(x);
            Scene.feed(x, WHOLE.substring(0, end));
            Check.same("readMap() of " + end, x.readMap(), end - end / 10);
            Check.same("text after " + end, Scene.text(x), WHOLE.substring(0, end) + before.substring(end));
            Check.same("undo()", x.undo(), 2);
            Check.same("text after undo", Scene.text(x), before);
        }
    }

    private static void error(String letters, int position) {
        Played x = new Played();
        x.setTerrain(2, 3, true);
        List<String> before = Sight.butInput(x);
        Scene.feed(x, letters);
        Check.same("readMap() of " + letters, x.readMap(), -100 - position);
        Check.sameSight("state after an error", Sight.butInput(x), before);
        Check.same("feed after an error", x.feed('w'), 1);
        Check.same("undo() after an error", x.undo(), 0);
    }

    private static void promise27Errors() {
        error("/", 0);
        error("x", 0);
        error("pp/", 2);
        error("pppppppp/", 8);
        error("pppppppppp", 9);
        error("ppppppppp//", 10);
        error("ppppppppp/pp/x", 12);
        error("ppQp", 2);
        error("p pp", 1);
        error("pp" + (char) (256 + 'p'), 2);
        error("pp" + (char) 65535, 2);
        error(WHOLE + "/", 69);
        error(WHOLE + "p", 69);
        error(WHOLE + "/ppppppppp/", 69);
        for (char letter = 0; letter < 300; letter++) {
            if ("pwhsm~PWHSM".indexOf(letter) < 0) {
                error("w" + letter, 1);
            }
        }
    }

    private static void promise27WaterUnderUnits() {
        Played x = new Played();
        x.add(1, 3, 1, 1);
        Scene.feed(x, "www~ww");
        List<String> before = Sight.butInput(x);
        Check.refused("readMap()", IllegalStateException.class, x::readMap);
        Check.sameSight("state after it", Sight.butInput(x), before);
        Check.same("feed after it", x.feed('h'), 1);
        Check.same("readMap()", x.readMap(), 1);
        Scene.feed(x, "www~x");
        Check.same("an error behind the water", x.readMap(), -104);
        Scene.feed(x, "~~~m~");
        Check.same("readMap()", x.readMap(), 5);
        Check.same("undo()", x.undo(), 2);
        Check.same("undo()", x.undo(), 1);
        Check.same("undo()", x.undo(), 0);
    }

    private static void promise27WaterUnderTheFirstAndTheLast() {
        Played x = new Played();
        x.add(1, 0, 1, 1);
        x.feed('~');
        Check.refused("water on 0", IllegalStateException.class, x::readMap);
        Scene.feed(x, WHOLE);
        Check.same("a plain on 0", x.readMap(), 63);
        x.start(0);
        x.add(0, 62, 1, 1);
        Scene.feed(x, WHOLE.substring(0, 68) + '~');
        Check.refused("water on 62", IllegalStateException.class, x::readMap);
        Check.same("text", Scene.text(x).indexOf('~'), -1);
    }

    private static void promise28Text() {
        Played x = new Played();
        Check.same("text", Scene.text(x), "ppppppppp/".repeat(7).substring(0, 69));
        String letters = "pwhsm~";
        for (int terrain = 0; terrain < 6; terrain++) {
            x.setTerrain(9 + terrain, terrain, false);
            Check.same("text(" + (10 + terrain) + ")", x.text(10 + terrain), letters.charAt(terrain));
            x.setTerrain(62, Math.min(terrain, 4), true);
            Check.same("text(68)", x.text(68), "PWHSMM".charAt(terrain));
        }
        for (int i : new int[] {-1, 69, Integer.MIN_VALUE, Integer.MAX_VALUE}) {
            Check.refused("text(" + i + ")", IndexOutOfBoundsException.class, () -> x.text(i));
        }
    }
}
