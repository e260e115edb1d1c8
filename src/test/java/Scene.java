import java.util.ArrayDeque;
import java.util.Arrays;
import java.util.Deque;
import java.util.NoSuchElementException;

/** Maps and games that several tests begin with. */
final class Scene {
    private Scene() {
    }

    static String text(Played x) {
        StringBuilder all = new StringBuilder();
        for (int i = 0; i < 69; i++) {
            all.append(x.text(i));
        }
        return all.toString();
    }

    static void feed(Played x, String letters) {
        for (int i = 0; i < letters.length(); i++) {
            x.feed(letters.charAt(i));
        }
    }

    static Played ofText(String map) {
        Played x = new Played();
        feed(x, map);
        x.readMap();
        return x;
    }

    /** The third row of the map, cells 18 to 26, begins as told; the rest of it is water. */
    static Played corridor(String letters) {
        String row = (letters + "~~~~~~~~~").substring(0, 9);
        return ofText("~~~~~~~~~/~~~~~~~~~/" + row + ("/~~~~~~~~~").repeat(4));
    }

    /** In rain, side 0 on cell 18 does not see the unit of side 1 on cell 23. */
    static Played hiddenAt23(String letters) {
        Played x = corridor(letters);
        x.setSource(18, 0, true);
        x.set(true, 1);
        x.add(0, 18, 5, 12);
        x.add(1, 23, 5, 12);
        return x;
    }

    /** A mountain beside the hidden unit is in no zone, so that the way of unit 0 leads into it. */
    static Played ambushed() {
        Played x = hiddenAt23("PPPPMPPPP");
        x.move(0, 24);
        return x;
    }

    /** Units of side 0 on 20 and of side 1 on 21, with supply, each with the sum of strengths. */
    static Played facing(int strength, int other) {
        Played x = new Played();
        x.setSource(20, 0, true);
        x.setSource(21, 1, true);
        stack(x, 0, 20, strength);
        stack(x, 1, 21, other);
        return x;
    }

    /** Two units where one has not strength enough. */
    private static void stack(Played x, int side, int cell, int strength) {
        x.add(side, cell, Math.min(9, strength), 5);
        if (strength > 9) {
            x.add(side, cell, strength - 9, 5);
        }
    }

    /** The cell to which the unit of side 1 on 21 retreats before 9 on 20. */
    static int refuge(Played x) {
        Check.same("attack(20, 21)", x.attack(20, 21), 2);
        int found = x.unit(1, 1);
        x.undo();
        return found;
    }

    /** A set of cells, by their numbers. */
    static long set(int... cells) {
        long found = 0;
        for (int cell : cells) {
            found |= 1L << cell;
        }
        return found;
    }

    static int[] stepsFrom(Played x, int from) {
        int[] steps = new int[63];
        Arrays.fill(steps, -1);
        steps[from] = 0;
        Deque<Integer> open = new ArrayDeque<>();
        open.add(from);
        while (!open.isEmpty()) {
            int cell = open.removeFirst();
            for (int direction = 0; direction < 6; direction++) {
                try {
                    int next = x.neighbor(cell, direction);
                    if (steps[next] < 0) {
                        steps[next] = steps[cell] + 1;
                        open.add(next);
                    }
                } catch (NoSuchElementException e) {
                    continue;
                }
            }
        }
        return steps;
    }

    /**
     * A game with something of everything: in round 1, on the turn of side 1, in snow, with the
     * supply range 30, after one attack, with a moved unit, and one of four units removed.
     */
    static Played busy() {
        Played x = new Played();
        x.setTerrain(0, 1, true);
        x.setTerrain(1, 5, false);
        x.set(false, 30);
        x.setSource(18, 0, true);
        x.setSource(26, 1, true);
        x.add(0, 19, 9, 5);
        x.add(1, 20, 1, 5);
        x.add(1, 25, 4, 5);
        x.add(0, 36, 3, 3);
        x.attack(19, 20);
        x.endTurn();
        x.endTurn();
        x.move(3, 37);
        x.set(true, 2);
        x.endTurn();
        x.move(2, 24);
        return x;
    }
}
