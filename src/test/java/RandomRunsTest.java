import java.lang.reflect.InvocationTargetException;
import java.lang.reflect.Method;
import java.util.ArrayList;
import java.util.Arrays;
import java.util.Comparator;
import java.util.List;

/**
 * Runs of many calls, the same ones each time, on HexCampaign and on NaiveCampaign. Two arguments,
 * the first run and their number, choose other runs.
 */
public final class RandomRunsTest {
    private static final int RUNS = 400;
    private static final int CALLS = 512;
    private static final String[] CHANGES = {"setTerrain", "setSource", "set", "add", "add", "add", "move",
        "move", "move", "move", "move", "attack", "attack", "attack", "endTurn", "feed", "feed", "readMap",
        "undo", "save", "restore"};
    private static final String[] MARCHES = {"move", "move", "move", "move", "move", "move", "attack", "endTurn",
        "undo"};
    private static long number = 1;
    /** Ambushes, results 0 to 2, refused moves, moves, moves that ended elsewhere, and moves without room. */
    private static final int[] COUNTS = new int[8];
    /** What one step and the questions at the end of a run need at most. */
    private static final int MOST_AT_ONCE = 8;
    private static final int MOST_AT_THE_END = 85;
    /** The letters that were fed to the map that is being read. */
    private static int fed = 0;
    private static HexCampaign played;
    private static NaiveCampaign naive;
    /** The calls of the campaign that is played, as nothing is promised after the 512th one. */
    private static int calls = 0;
    /** Whether the units of this run stand far from one another, on roads, in rain. */
    private static boolean isWide = false;

    private static int draw(int bound) {
        number = number * 6364136223846793005L + 1442695040888963407L;
        return (int) ((number >>> 33) % bound);
    }

    private static boolean oneIn(int bound) {
        return draw(bound) == 0;
    }

    private static int wild(int bound) {
        int[] edges = {-1, bound, Integer.MIN_VALUE, Integer.MAX_VALUE, bound + 1, 64, -64, 16, 32};
        return oneIn(40) ? edges[draw(edges.length)] : draw(bound);
    }

    public static void main(String[] args) {
        Method[] methods = HexCampaign.class.getDeclaredMethods();
        List<Method> face = new ArrayList<>();
        for (Method m : methods) {
            if (java.lang.reflect.Modifier.isPublic(m.getModifiers())) {
                face.add(m);
            }
        }
        face.sort(Comparator.comparing(Method::getName));
        int first = args.length > 0 ? Integer.parseInt(args[0]) : 0;
        int runs = args.length > 1 ? Integer.parseInt(args[1]) : RUNS;
        for (int run = first; run < first + runs; run++) {
            number = run + 1;
            play(face, run);
        }
        System.out.println("ambushes " + COUNTS[0] + ", results " + COUNTS[1] + " " + COUNTS[2] + " " + COUNTS[3]
                + ", refused moves " + COUNTS[4] + ", moves " + COUNTS[5] + ", stopped " + COUNTS[6]
                + ", without room " + COUNTS[7]);
        Check.same("each kind of result is met", isEachMet(), true);
        Check.end();
    }

    private static boolean isEachMet() {
        for (int count : COUNTS) {
            if (count < 20) {
                return false;
            }
        }
        return true;
    }

    private static void play(List<Method> face, int run) {
        played = new HexCampaign();
        naive = new NaiveCampaign();
        calls = 0;
        isWide = run % 2 == 1;
        if (isWide) {
            compare(find(face, "set"), new Object[] {true, 1}, "run " + run + ": ");
            compare(find(face, "set"), new Object[] {false, 30}, "run " + run + ": ");
        }
        boolean isWarm = isWide || oneIn(2);
        int limit = run % 4 == 0 ? CALLS : 220;
        fed = 0;
        for (int i = 0; i < limit && calls < CALLS - MOST_AT_ONCE - MOST_AT_THE_END; i++) {
            Method m = pick(face);
            Object[] values = isWarm && i < 110 ? null : valuesFor(m.getName());
            if (values == null) {
                m = find(face, i < 80 ? "setTerrain" : i < 94 ? "setSource" : "add");
                values = valuesFor(m.getName());
            }
            boolean isRare = m.getName().equals("start") || m.getName().equals("restore");
            if (isRare && !oneIn(12)) {
                continue;
            }
            int before = naive.count(6);
            String where = "run " + run + " call " + i + ": ";
            if (compare(m, values, where) == UnsupportedOperationException.class) {
                compareReport(face, where);
            }
            COUNTS[0] += m.getName().equals("move") && naive.count(6) > before ? 1 : 0;
        }
        compareAll(face, "end of run " + run + ": ");
    }

    /** All levels that a report can have. */
    private static void compareReport(List<Method> face, String where) {
        for (int level = 0; level < 3; level++) {
            Object code = compare(find(face, "report"), new Object[] {level, 0}, where);
            compare(find(face, "report"), new Object[] {level, 1}, where);
            COUNTS[7] += level == 1 && code.equals(4) ? 1 : 0;
        }
    }

    private static void compareAll(List<Method> face, String where) {
        for (int unit = 0; unit < 16; unit++) {
            for (int what : new int[] {1, 2, 7, 8}) {
                compare(find(face, "unit"), new Object[] {unit, what}, where);
            }
        }
        for (int what = 0; what < 8; what++) {
            compare(find(face, "count"), new Object[] {what}, where);
        }
        for (int what = 0; what < 6; what++) {
            compare(find(face, "account"), new Object[] {0, what}, where);
            compare(find(face, "account"), new Object[] {1, what}, where);
        }
    }

    private static Method find(List<Method> face, String name) {
        for (Method m : face) {
            if (m.getName().equals(name)) {
                return m;
            }
        }
        throw new IllegalStateException(name);
    }

    private static Method pick(List<Method> face) {
        if (isWide && !oneIn(5)) {
            return find(face, MARCHES[draw(MARCHES.length)]);
        }
        return oneIn(3) ? face.get(draw(face.size())) : find(face, CHANGES[draw(CHANGES.length)]);
    }

    /** Returns the answer that is due; an exception answers with its class. */
    private static Object compare(Method m, Object[] values, String where) {
        calls++;
        Object got = answer(m, played, values);
        Object due = null;
        try {
            due = answer(NaiveCampaign.class.getMethod(m.getName(), m.getParameterTypes()), naive, values);
        } catch (NoSuchMethodException e) {
            due = e;
        }
        note(m.getName(), values, due);
        Check.same(where + m.getName() + Arrays.toString(values), got, due);
        return due;
    }

    private static void note(String name, Object[] values, Object due) {
        if (name.equals("attack") && due instanceof Integer) {
            COUNTS[1 + (Integer) due]++;
        }
        if (name.equals("move")) {
            COUNTS[4] += due == UnsupportedOperationException.class ? 1 : 0;
            COUNTS[5] += due instanceof Integer ? 1 : 0;
            COUNTS[6] += due instanceof Integer && !due.equals(values[1]) ? 1 : 0;
        }
    }

    private static Object answer(Method m, Object object, Object[] values) {
        try {
            return m.invoke(object, values);
        } catch (InvocationTargetException e) {
            return e.getCause().getClass();
        } catch (IllegalAccessException e) {
            return e;
        }
    }

    private static int aUnit() {
        return oneIn(10) ? wild(16) : draw(Math.max(1, Math.min(16, naive.count(0) + 3)));
    }

    private static int placeOf(int unit) {
        try {
            return naive.unit(unit, 1);
        } catch (IndexOutOfBoundsException e) {
            return draw(63);
        }
    }

    /** A cell near others, so that units meet. */
    private static int near(int cell) {
        int found = cell;
        for (int i = draw(4); i >= 0; i--) {
            found = beside(found);
        }
        return found;
    }

    private static int beside(int cell) {
        int found = cell >= 0 && cell < 63 ? Grid.neighbor(cell, draw(6)) : cell;
        return found >= 0 ? found : cell;
    }

    private static int goal(int unit) {
        try {
            calls++;
            long reach = played.reach(unit);
            int cell = draw(63);
            for (int i = 0; i < 63 && !oneIn(25); i++) {
                cell = (cell + 1) % 63;
                if ((reach >>> cell & 1) != 0) {
                    return cell;
                }
            }
            return cell;
        } catch (IndexOutOfBoundsException e) {
            return wild(63);
        }
    }

    /** A cell with units of the same side, near by. */
    private static int crowd(int unit) {
        int place = placeOf(unit);
        int found = draw(63);
        for (int other = 0; other < 16; other++) {
            int cell = placeOf(other);
            boolean isNear = cell != place && Grid.distance(cell, place) <= 4;
            found = isNear && naive.cell(cell, 4) > 5 ? cell : found;
        }
        return found;
    }

    private static int addedAt() {
        return oneIn(30) || isWide ? wild(63) : near(20 + draw(8));
    }

    private static Object[] valuesFor(String name) {
        int unit = aUnit();
        switch (name) {
            case "start": return new Object[] {draw(Integer.MAX_VALUE) - 1000000000};
            case "setTerrain": return new Object[] {wild(63), oneIn(isWide ? 2 : 3) ? 4 : wild(6), !oneIn(isWide ? 12 : 3)};
            case "setSource": return new Object[] {wild(63), wild(2), !oneIn(4)};
            case "set": return oneIn(isWide ? 20 : 2) ? new Object[] {true, wild(3)} : new Object[] {false, wild(31)};
            case "cell": return new Object[] {wild(63), wild(5)};
            case "neighbor": return new Object[] {wild(63), wild(6)};
            case "distance": return new Object[] {wild(63), wild(63)};
            case "count": return new Object[] {wild(8)};
            case "add": return new Object[] {wild(2), addedAt(),
                oneIn(20) ? wild(11) : 1 + draw(6), oneIn(20) ? wild(14) : isWide ? 8 + draw(5) : 1 + draw(12)};
            case "unit": return new Object[] {unit, wild(10)};
            case "known": return new Object[] {wild(2)};
            case "cells": return new Object[] {wild(2), wild(5)};
            case "isSeen": return new Object[] {wild(63), wild(63)};
            case "supplyCost": return new Object[] {wild(2), wild(63)};
            case "reach": return new Object[] {unit};
            case "cost": return new Object[] {unit, wild(63)};
            case "way": return new Object[] {unit, wild(63), oneIn(9) ? wild(63) : draw(6)};
            case "move": return new Object[] {unit, oneIn(isWide ? 12 : 3) ? crowd(unit) : goal(unit)};
            case "odds":
            case "attack": return fightValues(name, unit);
            case "account": return new Object[] {wild(2), wild(6)};
            case "report": return new Object[] {wild(4), wild(3)};
            case "feed": return new Object[] {letter()};
            case "text": return new Object[] {wild(69)};
            case "readMap":
                fed = 0;
                return new Object[] {};
            default: return new Object[] {};
        }
    }

    private static char letter() {
        fed++;
        String letters = "pwhsmPWHSM~";
        if (fed % 10 == 0 && !oneIn(5)) {
            return '/';
        }
        return oneIn(60) ? (char) draw(65536) : letters.charAt(draw(oneIn(3) ? 11 : 10));
    }

    private static Object[] fightValues(String name, int unit) {
        int from = placeOf(unit);
        int to = oneIn(30) ? wild(63) : beside(from);
        for (int cell = 0; cell < 63; cell++) {
            if (Grid.distance(from, cell) == 1 && naive.cell(cell, 3) != 0 && !oneIn(10)) {
                to = cell;
            }
        }
        return name.equals("odds") ? new Object[] {from, to, oneIn(2)} : new Object[] {from, to};
    }
}
