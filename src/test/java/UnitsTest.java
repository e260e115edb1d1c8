/** Promises 10 to 12: adding units, the numbers about them, and which ones a side knows. */
public final class UnitsTest {
    public static void main(String[] args) {
        promise10Add();
        promise10Room();
        promise10SixteenUnits();
        promise10Refusals();
        promise11Numbers();
        promise11Halves();
        promise11Turns();
        promise11Refusals();
        promise12Known();
        Check.end();
    }

    private static void promise10Add() {
        Played x = new Played();
        Check.same("add(1, 0, 1, 12)", x.add(1, 0, 1, 12), 0);
        Check.same("add(0, 62, 9, 1)", x.add(0, 62, 9, 1), 1);
        int[] dues = {1, 0, 1, 12};
        for (int what = 0; what < dues.length; what++) {
            Check.same("unit(0, " + what + ")", x.unit(0, what), dues[what]);
        }
        Check.same("unit(1, 2)", x.unit(1, 2), 9);
        Check.same("unit(1, 3)", x.unit(1, 3), 1);
    }

    private static void promise10Room() {
        Played x = new Played();
        x.add(0, 20, 9, 1);
        Check.refusedUnchanged(x, "13 on a cell", IllegalStateException.class, () -> x.add(0, 20, 4, 1));
        Check.same("12 on a cell", x.add(0, 20, 3, 1), 1);
        Check.refusedUnchanged(x, "a unit of the other side", IllegalStateException.class,
                () -> x.add(1, 20, 1, 1));
        for (int i = 2; i < 5; i++) {
            Check.same("three on a cell", x.add(1, 30, 1, 1), i);
        }
        Check.refusedUnchanged(x, "four on a cell", IllegalStateException.class, () -> x.add(1, 30, 1, 1));
        x.setTerrain(40, 5, false);
        Check.refusedUnchanged(x, "a unit on water", IllegalStateException.class, () -> x.add(1, 40, 1, 1));
        x.setTerrain(40, 4, false);
        Check.same("a unit on a mountain", x.add(1, 40, 1, 1), 5);
    }

    private static void promise10SixteenUnits() {
        Played x = new Played();
        for (int unit = 0; unit < 15; unit++) {
            Check.same("add " + unit, x.add(0, 2 * unit, 1, 1), unit);
        }
        Check.same("15 units without supply end", x.endTurn(), 15);
        Check.same("the last number", x.add(1, 5, 1, 1), 15);
        Check.refusedUnchanged(x, "the 17th unit", IllegalStateException.class, () -> x.add(1, 6, 1, 1));
        Check.same("undo()", x.undo(), 7);
        Check.same("the last number again", x.add(1, 6, 1, 1), 15);
        Check.same("start(0)", x.start(0), 1);
        Check.same("the first number", x.add(1, 6, 1, 1), 0);
    }

    private static void promise10Refusals() {
        Played x = new Played();
        int[][] outside = {{2, 0, 10, 1}, {-1, 0, 1, 1}, {0, 63, 1, 13}, {0, -1, 1, 1},
            {Integer.MAX_VALUE, 0, 1, 1}, {0, Integer.MIN_VALUE, 1, 1}};
        for (int[] a : outside) {
            Check.refusedUnchanged(x, "add outside", IndexOutOfBoundsException.class,
                    () -> x.add(a[0], a[1], a[2], a[3]));
        }
        x.setTerrain(1, 5, false);
        int[][] wrong = {{0, 1, 0, 1}, {0, 1, 10, 1}, {0, 1, 1, 0}, {0, 1, 1, 13}, {1, 5, -1, 4},
            {1, 5, Integer.MAX_VALUE, 4}, {1, 5, 4, Integer.MIN_VALUE}};
        for (int[] a : wrong) {
            Check.refusedUnchanged(x, "add with wrong values", IllegalArgumentException.class,
                    () -> x.add(a[0], a[1], a[2], a[3]));
        }
        Check.same("undo() after refusals", x.undo(), 0);
    }

    private static void numbers(Played x, int unit, int... dues) {
        for (int what = 0; what < dues.length; what++) {
            Check.same("unit(" + unit + ", " + what + ")", x.unit(unit, what), dues[what]);
        }
    }

    private static void promise11Numbers() {
        Played x = new Played();
        x.setSource(18, 0, true);
        x.add(0, 20, 5, 7);
        x.add(1, 24, 5, 7);
        x.add(1, 62, 8, 8);
        numbers(x, 0, 0, 20, 5, 7, 7, 5, 1, 1, 1, 1);
        numbers(x, 1, 1, 24, 5, 7, 4, 3, 0, 0, 0, 1);
        numbers(x, 2, 1, 62, 8, 8, 4, 4, 0, 0, 0, 0);
        x.set(false, 1);
        numbers(x, 0, 0, 20, 5, 7, 4, 3, 0, 1, 1, 1);
        x.set(false, 2);
        x.set(true, 1);
        numbers(x, 0, 0, 20, 5, 7, 4, 3, 0, 1, 1, 0);
    }

    private static void promise11Halves() {
        Played x = new Played();
        for (int strength = 1; strength <= 9; strength++) {
            int unit = x.add(0, 6 * strength, strength, strength + 3);
            Check.same("half of " + strength, x.unit(unit, 5), new int[] {0, 1, 1, 2, 2, 3, 3, 4, 4, 5}[strength]);
            Check.same("half of " + (strength + 3), x.unit(unit, 4),
                    new int[] {0, 2, 3, 3, 4, 4, 5, 5, 6, 6}[strength]);
        }
    }

    private static void promise11Turns() {
        Played x = new Played();
        x.setSource(18, 0, true);
        x.setSource(26, 1, true);
        x.add(0, 19, 5, 5);
        x.add(0, 19, 5, 5);
        x.add(1, 22, 9, 5);
        canMoveAndAttack(x, 0, 1, 1);
        x.move(0, 21);
        canMoveAndAttack(x, 0, 0, 1);
        x.attack(21, 22);
        canMoveAndAttack(x, 0, 0, 0);
        canMoveAndAttack(x, 1, 1, 1);
        x.add(0, 21, 2, 5);
        canMoveAndAttack(x, 3, 1, 1);
        x.attack(21, 22);
        canMoveAndAttack(x, 3, 0, 0);
        canMoveAndAttack(x, 2, 0, 0);
        x.endTurn();
        canMoveAndAttack(x, 0, 0, 0);
        canMoveAndAttack(x, 1, 0, 0);
        canMoveAndAttack(x, 2, 1, 1);
        x.endTurn();
        canMoveAndAttack(x, 0, 1, 1);
        canMoveAndAttack(x, 2, 0, 0);
    }

    private static void canMoveAndAttack(Played x, int unit, int canMove, int canAttack) {
        Check.same("unit(" + unit + ", 7)", x.unit(unit, 7), canMove);
        Check.same("unit(" + unit + ", 8)", x.unit(unit, 8), canAttack);
    }

    private static void promise11Refusals() {
        Played x = new Played();
        x.add(0, 20, 1, 1);
        x.add(0, 40, 2, 1);
        x.endTurn();
        for (int unit : new int[] {0, 2, -1, 16, 32, 33, Integer.MIN_VALUE, Integer.MAX_VALUE}) {
            Check.refused("unit(" + unit + ", 99)", IndexOutOfBoundsException.class, () -> x.unit(unit, 99));
        }
        for (int what : new int[] {-1, 10, Integer.MIN_VALUE, Integer.MAX_VALUE}) {
            Check.refused("unit(1, " + what + ")", IllegalArgumentException.class, () -> x.unit(1, what));
        }
        Check.same("unit(1, 2)", x.unit(1, 2), 1);
    }

    private static void promise12Known() {
        Played x = new Played();
        Check.same("known(0) without units", x.known(0), 0);
        x.add(0, 18, 1, 1);
        x.add(1, 22, 1, 1);
        x.add(1, 23, 1, 1);
        x.add(1, 22, 1, 1);
        x.add(0, 26, 1, 1);
        x.add(1, 0, 1, 1);
        Check.same("known(0)", x.known(0), 0b101110);
        Check.same("known(1)", x.known(1), 0b010001);
        x.undo();
        x.undo();
        Check.same("known(0) at range 4", x.known(0), 0b001010);
        x.set(true, 2);
        Check.same("known(0) at range 3", x.known(0), 0);
        Check.refused("known(2)", IndexOutOfBoundsException.class, () -> x.known(2));
        Check.refused("known(-1)", IndexOutOfBoundsException.class, () -> x.known(-1));
    }
}
