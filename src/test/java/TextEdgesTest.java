import java.util.List;

/** The edges in the chapter "Texts", and of the promises 26 to 28. */
public final class TextEdgesTest {
    private static final String LETTERS = "pwhsm~PWHSM";
    private static final String ROW = "pwhsm~PWH";
    private static final String MAP = ROW + "/SMPWHsmpw/HSMPWHsm~/~~~~~~~~~/ppppppppp/MMMMMMMMM/wPwPwPwPw";

    public static void main(String[] args) {
        eightyCharacters();
        anyCharacter();
        anEmptyBuffer();
        emptyAfterwards();
        endAtAnyPlace();
        lengthsAtTheEdges();
        cellsThatAreNotSet();
        roadsThatAreRead();
        eachLetter();
        noSuchLetter();
        rowsThatAreTooShort();
        rowsThatAreTooLong();
        noRowsBehindTheLast();
        firstErrorAlone();
        errorsLeaveTheState();
        waterUnderAUnit();
        waterUnderUnitsOfTheEdges();
        unitsBehindTheText();
        errorsBesideWater();
        waterUnderNoUnit();
        firstAndLastCharacter();
        eachCharacterOfATerrain();
        textsAreReadAgain();
        Check.end();
    }

    private static String plains() {
        return "ppppppppp/".repeat(7).substring(0, 69);
    }

    private static void read(Played x, String letters, int due) {
        Scene.feed(x, letters);
        Check.same("readMap() of " + letters, x.readMap(), due);
    }

    /** "If the buffer already holds 80 characters". */
    private static void eightyCharacters() {
        Played x = new Played();
        for (int i = 1; i <= 80; i++) {
            Check.same("feed", x.feed('p'), i);
        }
        Check.refusedUnchanged(x, "the 81st character", IllegalStateException.class, () -> x.feed('p'));
        Check.refusedUnchanged(x, "one more", IllegalStateException.class, () -> x.feed('/'));
        Check.same("readMap() of 80", x.readMap(), -109);
        for (int i = 1; i <= 80; i++) {
            Check.same("feed after it", x.feed('/'), i);
        }
        Check.refusedUnchanged(x, "the 81st character again", IllegalStateException.class, () -> x.feed('p'));
        Check.same("readMap() of 80 again", x.readMap(), -100);
    }

    /** "Letter: any character". */
    private static void anyCharacter() {
        Played x = new Played();
        char[] letters = {0, 1, ' ', '/', 'p', 127, 128, 255, 256, 0xD800, 0xFFFF};
        for (int i = 0; i < letters.length; i++) {
            Check.same("feed of " + (int) letters[i], x.feed(letters[i]), i + 1);
        }
        Check.same("readMap()", x.readMap(), -100);
    }

    /** "Also before the first letter": a text of nothing sets nothing. */
    private static void anEmptyBuffer() {
        Played x = new Played();
        x.setTerrain(0, 4, true);
        Check.same("readMap() of nothing", x.readMap(), 0);
        Check.same("cell(0, 0)", x.cell(0, 0), 4);
        Check.same("cell(0, 1)", x.cell(0, 1), 1);
        Check.same("readMap() of nothing again", x.readMap(), 0);
        Check.same("feed", x.feed('p'), 1);
    }

    /** "The buffer is empty afterwards, also after an error or an exception." */
    private static void emptyAfterwards() {
        Played x = new Played();
        read(x, "ww", 2);
        Check.same("feed after a map", x.feed('x'), 1);
        Check.same("readMap() with an error", x.readMap(), -100);
        Check.same("feed after an error", x.feed('w'), 1);
        x.feed('~');
        x.add(0, 1, 1, 1);
        Check.refused("water under a unit", IllegalStateException.class, x::readMap);
        Check.same("readMap() after an exception", x.readMap(), 0);
        Check.same("feed after an exception", x.feed('h'), 1);
        Check.same("readMap()", x.readMap(), 1);
        Check.same("text", Scene.text(x), "hw" + plains().substring(2));
    }

    /** "A text to be read can end at any place". */
    private static void endAtAnyPlace() {
        for (int end = 0; end <= 69; end++) {
            Played x = new Played();
            read(x, MAP.substring(0, end), end - end / 10);
            Check.same("text", Scene.text(x), MAP.substring(0, end) + plains().substring(end));
        }
    }

    /** Before and behind the first letter, the first and the last / and the last letter. */
    private static void lengthsAtTheEdges() {
        int[][] edges = {{0, 0}, {1, 1}, {8, 8}, {9, 9}, {10, 9}, {11, 10}, {59, 54}, {60, 54}, {61, 55},
            {68, 62}, {69, 63}};
        for (int[] e : edges) {
            read(new Played(), MAP.substring(0, e[0]), e[1]);
        }
    }

    /** "Returns the number of cells that are set": the others stay as they are. */
    private static void cellsThatAreNotSet() {
        Played x = new Played();
        for (int cell = 0; cell < 63; cell++) {
            x.setTerrain(cell, 4, true);
        }
        read(x, ROW + "/", 9);
        Check.same("text", Scene.text(x), ROW + "/" + "MMMMMMMMM/".repeat(6).substring(0, 59));
        x.setSource(3, 1, true);
        x.add(1, 3, 1, 1);
        read(x, "hhhhh", 5);
        Check.same("a source stays", x.cell(3, 2), 2);
        Check.same("a unit stays", x.cell(3, 3), 1);
    }

    /** "P, W, H, S and M for the same with a road": a small letter takes the road away. */
    private static void roadsThatAreRead() {
        Played x = new Played();
        read(x, "PWHSM", 5);
        for (int cell = 0; cell < 5; cell++) {
            Check.same("cell(" + cell + ", 0)", x.cell(cell, 0), cell);
            Check.same("cell(" + cell + ", 1)", x.cell(cell, 1), 1);
        }
        read(x, "pwh~m", 5);
        for (int cell = 0; cell < 5; cell++) {
            Check.same("cell(" + cell + ", 0)", x.cell(cell, 0), cell == 3 ? 5 : cell);
            Check.same("cell(" + cell + ", 1)", x.cell(cell, 1), 0);
        }
    }

    /** "P plain, w wood, h hill, s swamp, m mountain, ~ water, and P, W, H, S and M". */
    private static void eachLetter() {
        for (int i = 0; i < LETTERS.length(); i++) {
            Played x = new Played();
            read(x, LETTERS.substring(i, i + 1), 1);
            Check.same("cell(0, 0)", x.cell(0, 0), i % 6);
            Check.same("cell(0, 1)", x.cell(0, 1), i / 6);
            Check.same("text(0)", x.text(0), LETTERS.charAt(i));
        }
    }

    /** "The first character that cannot continue such a text": every other one, at several places. */
    private static void noSuchLetter() {
        char[] letters = {'?', 'Q', 'o', 'q', '}', 0, 127, 'p' + 256, 'P' + 256, '~' + 256, 0xFFFF};
        for (int place : new int[] {0, 1, 8, 10, 18, 60, 68}) {
            for (char letter : letters) {
                read(new Played(), MAP.substring(0, place) + letter, -100 - place);
            }
        }
        Played x = new Played();
        for (int letter = 0; letter < 256; letter++) {
            x.feed((char) letter);
            Check.same("readMap() of " + letter, x.readMap(), LETTERS.indexOf(letter) < 0 ? -100 : 1);
            if (letter % 128 == 127) {
                x = new Played();
            }
        }
    }

    /** "A row is not shorter than 9 letters if a / follows." */
    private static void rowsThatAreTooShort() {
        for (int row = 0; row < 7; row++) {
            for (int letters = 0; letters < 9; letters++) {
                int place = 10 * row + letters;
                read(new Played(), MAP.substring(0, place) + "/", -100 - place);
                read(new Played(), MAP.substring(0, place) + "/" + ROW, -100 - place);
            }
        }
    }

    /** "One letter for each column": a tenth one cannot stand there. */
    private static void rowsThatAreTooLong() {
        for (int row = 0; row < 7; row++) {
            int place = 10 * row + 9;
            for (char letter : LETTERS.toCharArray()) {
                read(new Played(), MAP.substring(0, Math.min(69, place)) + letter, -100 - place);
            }
        }
    }

    /** "Rows with / between two of them": there is none behind the last one. */
    private static void noRowsBehindTheLast() {
        read(new Played(), MAP, 63);
        read(new Played(), MAP + "/", -169);
        read(new Played(), MAP + "p", -169);
        read(new Played(), MAP + "/pppppppp", -169);
        read(new Played(), MAP + "/ppppppppp/", -169);
        read(new Played(), MAP + "///////////", -169);
    }

    /** "The offset, from 0, of the first character that cannot continue": later ones do not count. */
    private static void firstErrorAlone() {
        for (int place = 0; place < 69; place++) {
            String letters = MAP.substring(0, place) + "?" + MAP.substring(place + 1) + "?/??x";
            read(new Played(), letters, -100 - place);
        }
    }

    /** "A method that [..] returns an error code leaves the state unchanged". */
    private static void errorsLeaveTheState() {
        for (String letters : new String[] {"/", "x", "wwwx", "hhhhhhhhhh", MAP + "/"}) {
            Played x = Scene.busy();
            x.save();
            x.setTerrain(40, 3, true);
            List<String> before = Sight.butInput(x);
            Scene.feed(x, letters);
            Check.same("readMap() is an error", x.readMap() <= -100, true);
            Check.sameSight("after an error", Sight.butInput(x), before);
            Check.same("feed after an error", x.feed('p'), 1);
        }
    }

    /** "If a cell with a unit would become water; then no cell is set". */
    private static void waterUnderAUnit() {
        Played x = Scene.busy();
        x.save();
        int cell = x.unit(3, 1);
        String hills = plains().replace('p', 'h').substring(0, cell + cell / 9);
        List<String> before = Sight.butInput(x);
        for (String letters : new String[] {hills + "~", hills + "~h", "~" + hills.substring(1) + "~"}) {
            Scene.feed(x, letters);
            Check.refused("readMap() of " + letters, IllegalStateException.class, x::readMap);
            Check.sameSight("after water under a unit", Sight.butInput(x), before);
        }
        Check.same("feed afterwards", x.feed('p'), 1);
    }

    /** "If a cell with a unit would become water": the first and the last one of a row and of the map. */
    private static void waterUnderUnitsOfTheEdges() {
        String water = plains().replace('p', '~');
        for (int cell : new int[] {0, 8, 9, 53, 54, 62}) {
            for (int side = 0; side <= 1; side++) {
                Played x = new Played();
                x.add(side, cell, 1, 1);
                int place = cell + cell / 9;
                Scene.feed(x, water.substring(0, place + 1));
                Check.refused("water on " + cell, IllegalStateException.class, x::readMap);
                Check.same("text", Scene.text(x), plains());
                Scene.feed(x, water.substring(0, place) + "m" + water.substring(place + 1));
                Check.same("a mountain on " + cell, x.readMap(), 63);
                Check.same("text", Scene.text(x), water.substring(0, place) + "m" + water.substring(place + 1));
            }
        }
    }

    /** The text ends before the cell with the unit. */
    private static void unitsBehindTheText() {
        Played x = new Played();
        x.add(0, 9, 1, 1);
        read(x, "~~~~~~~~~/", 9);
        Check.same("cell(8, 0)", x.cell(8, 0), 5);
        Check.same("cell(9, 0)", x.cell(9, 0), 0);
        Scene.feed(x, "~~~~~~~~~/~");
        Check.refused("one letter more", IllegalStateException.class, x::readMap);
    }

    /** A text with an error is no map, so that no cell of it would become water. */
    private static void errorsBesideWater() {
        Played x = new Played();
        x.add(0, 1, 1, 1);
        read(x, "p~x", -102);
        read(x, "x~", -100);
        read(x, "p~/", -102);
        Check.same("cell(1, 0)", x.cell(1, 0), 0);
    }

    /** Where a unit has left or was removed, there is none. */
    private static void waterUnderNoUnit() {
        Played x = new Played();
        x.add(0, 0, 9, 2);
        x.add(0, 3, 1, 2);
        x.move(0, 1);
        x.endTurn();
        read(x, "~p~~", 4);
        Scene.feed(x, "p~");
        Check.refused("water under the unit", IllegalStateException.class, x::readMap);
    }

    /** The text has 69 characters. */
    private static void firstAndLastCharacter() {
        Played x = Scene.ofText(MAP);
        Check.same("text(0)", x.text(0), 'p');
        Check.same("text(68)", x.text(68), 'w');
        for (int i : new int[] {-1, 69, 70, Integer.MIN_VALUE, Integer.MAX_VALUE}) {
            Check.refused("text(" + i + ")", IndexOutOfBoundsException.class, () -> x.text(i));
        }
        for (int row = 0; row < 6; row++) {
            Check.same("the place between two rows", x.text(10 * row + 9), '/');
            Check.same("the last letter of a row", x.text(10 * row + 8), MAP.charAt(10 * row + 8));
            Check.same("the first letter of a row", x.text(10 * row + 10), MAP.charAt(10 * row + 10));
        }
    }

    /** "Which has one letter for each column", with a road and without. */
    private static void eachCharacterOfATerrain() {
        for (int cell : new int[] {0, 8, 9, 54, 62}) {
            Played x = new Played();
            for (int terrain = 0; terrain <= 5; terrain++) {
                x.setTerrain(cell, terrain, false);
                Check.same("a letter without a road", x.text(cell + cell / 9), LETTERS.charAt(terrain));
                if (terrain < 5) {
                    x.setTerrain(cell, terrain, true);
                    Check.same("a letter with a road", x.text(cell + cell / 9), LETTERS.charAt(terrain + 6));
                }
            }
        }
    }

    /** The text of a map is one that can be read. */
    private static void textsAreReadAgain() {
        Played x = Scene.ofText(MAP);
        Played y = Scene.ofText(Scene.text(x));
        Check.same("text", Scene.text(y), MAP);
        for (int cell = 0; cell < 63; cell++) {
            char letter = MAP.charAt(cell + cell / 9);
            Check.same("cell(" + cell + ", 0)", x.cell(cell, 0), LETTERS.indexOf(letter) % 6);
            Check.same("cell(" + cell + ", 1)", x.cell(cell, 1), LETTERS.indexOf(letter) / 6);
        }
    }
}
