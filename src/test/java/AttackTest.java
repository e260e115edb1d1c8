import java.util.NoSuchElementException;

/** Promises 20 to 24: attacks, retreats, ends of turns, accounts and the balance. */
public final class AttackTest {
    public static void main(String[] args) {
        promise20Odds();
        promise20WhoAttacks();
        promise20And21Refusals();
        promise21Results();
        promise21LossesOfEach();
        promise21Unseen();
        promise21RetreatChoice();
        promise21RetreatByUnits();
        promise21RetreatInOrder();
        promise21NoRetreat();
        promise21FirstUnitRetreats();
        promise22Turns();
        promise22Supply();
        promise22Weather();
        promise23Account();
        promise23Refusals();
        promise24Balance();
        Check.end();
    }

    private static void odds(Played x, int attack, int defense) {
        Check.same("odds(20, 21, false)", x.odds(20, 21, false), attack);
        Check.same("odds(20, 21, true)", x.odds(20, 21, true), defense);
    }

    private static void promise20Odds() {
        Played x = Scene.facing(5, 3);
        odds(x, 5, 3);
        x.add(0, 20, 4, 1);
        x.add(0, 20, 3, 1);
        x.add(1, 21, 7, 1);
        odds(x, 12, 10);
        x.setSource(20, 0, false);
        odds(x, 3 + 2 + 2, 10);
        x.setSource(21, 1, false);
        odds(x, 7, 2 + 4);
        x.set(true, 2);
        odds(x, 7, 6);
        x.set(true, 1);
        odds(x, 6, 6);
        int[] covers = {0, 1, 2, 0, 3};
        for (int terrain = 0; terrain < covers.length; terrain++) {
            x.setTerrain(21, terrain, terrain % 2 == 0);
            x.setTerrain(20, 4 - terrain, false);
            odds(x, 6, 6 + covers[terrain]);
        }
        x.endTurn();
        Check.same("odds(21, 20, false)", x.odds(21, 20, false), 5);
        Check.same("odds(21, 20, true)", x.odds(21, 20, true), 2 + 2 + 1);
    }

    private static void promise20WhoAttacks() {
        Played x = Scene.facing(5, 9);
        x.attack(20, 21);
        x.add(0, 20, 2, 5);
        odds(x, 2, 9);
        Check.same("attack of the new one", x.attack(20, 21), 0);
        Check.same("unit(0, 2)", x.unit(0, 2), 4);
        Check.same("unit(2, 2)", x.unit(2, 2), 1);
        Check.refusedUnchanged(x, "a third attack", NoSuchElementException.class, () -> x.attack(20, 21));
        Check.refused("odds without attackers", NoSuchElementException.class, () -> x.odds(20, 21, true));
        Check.same("count(7)", x.count(7), 2);
        x.endTurn();
        x.endTurn();
        odds(x, 5, 9);
        Check.refused("odds(21, 20, false)", NoSuchElementException.class, () -> x.odds(21, 20, false));
    }

    private static void promise20And21Refusals() {
        Played x = Scene.facing(5, 3);
        x.add(0, 10, 1, 1);
        for (int cell : new int[] {-1, 63, Integer.MIN_VALUE, Integer.MAX_VALUE}) {
            both(x, IndexOutOfBoundsException.class, cell, 21);
            both(x, IndexOutOfBoundsException.class, 20, cell);
        }
        both(x, IllegalArgumentException.class, 20, 20);
        both(x, IllegalArgumentException.class, 20, 22);
        both(x, IllegalArgumentException.class, 8, 9);
        both(x, NoSuchElementException.class, 20, 19);
        both(x, NoSuchElementException.class, 22, 21);
        both(x, NoSuchElementException.class, 20, 10);
        both(x, NoSuchElementException.class, 21, 20);
        Check.same("undo() after refusals", x.undo(), 4);
    }

    private static void both(Played x, Class<? extends RuntimeException> due, int from, int to) {
        Check.refused("odds(" + from + ", " + to + ", false)", due, () -> x.odds(from, to, false));
        Check.refused("odds(" + from + ", " + to + ", true)", due, () -> x.odds(from, to, true));
        Check.refusedUnchanged(x, "attack(" + from + ", " + to + ")", due, () -> x.attack(from, to));
    }

    private static void promise21Results() {
        for (int strength = 1; strength <= 9; strength++) {
            for (int other = 1; other <= 9; other++) {
                int due = strength >= 2 * other ? 2 : strength > other ? 1 : 0;
                Played x = Scene.facing(strength, other);
                Check.same("attack of " + strength + " on " + other, x.attack(20, 21), due);
                Check.same("count(7)", x.count(7), 1);
                Check.same("lost by 0", x.account(0, 2), due == 2 ? 0 : 1);
                Check.same("lost by 1", x.account(1, 2), due == 0 ? 0 : 1);
                Check.same("units", x.count(0), 2 - x.account(0, 5) - x.account(1, 5));
                Check.same("removed of 0", x.account(0, 5), due == 0 && strength == 1 ? 1 : 0);
                Check.same("removed of 1", x.account(1, 5), due > 0 && other == 1 ? 1 : 0);
            }
        }
    }

    private static void promise21LossesOfEach() {
        Played x = Scene.facing(3, 2);
        x.add(0, 20, 1, 1);
        x.add(1, 21, 1, 1);
        Check.same("4 on 3", x.attack(20, 21), 1);
        Check.strengths(x, 2, 1, 1, 1);
        Played y = Scene.facing(3, 4);
        y.add(0, 20, 1, 1);
        y.add(1, 21, 1, 1);
        Check.same("4 on 5", y.attack(20, 21), 0);
        Check.strengths(y, 2, 4, 0, 1);
        Played z = Scene.facing(6, 2);
        z.add(0, 20, 4, 1);
        z.add(1, 21, 1, 1);
        z.add(1, 21, 2, 1);
        Check.same("10 on 5", z.attack(20, 21), 2);
        Check.strengths(z, 6, 1, 4, 0, 1);
        Check.same("account(1, 2)", z.account(1, 2), 3);
        Check.same("cell(21, 3)", z.cell(21, 3), 0);
    }

    private static void promise21Unseen() {
        Played x = Scene.facing(9, 2);
        x.set(true, 1);
        x.setTerrain(20, 5 - 1, false);
        Check.same("unit(1, 9)", x.unit(1, 9), 1);
        Check.same("attack with rain, 8 on 2", x.attack(20, 21), 2);
        Check.same("unit(1, 1)", x.unit(1, 1), 12);
    }

    private static void promise21RetreatChoice() {
        Played x = Scene.facing(9, 2);
        Check.same("the lowest number", Scene.refuge(x), 12);
        x.setTerrain(12, 1, false);
        Check.same("the least cost", Scene.refuge(x), 22);
        x.setTerrain(22, 2, false);
        x.setTerrain(30, 4, false);
        Check.same("the lowest number of equal costs", Scene.refuge(x), 12);
        x.set(true, 2);
        x.setTerrain(30, 3, false);
        Check.same("the least cost with snow", Scene.refuge(x), 30);
        x.setTerrain(21, 0, true);
        x.setTerrain(22, 1, true);
        Check.same("a road", Scene.refuge(x), 22);
        x.set(true, 0);
        x.setTerrain(22, 1, false);
        x.setTerrain(30, 1, true);
        Check.same("a road of the greatest number", Scene.refuge(x), 30);
        x.undo();
        x.undo();
        x.undo();
        x.setTerrain(22, 5, false);
        Check.same("no water", Scene.refuge(x), 30);
        x.add(0, 31, 1, 1);
        Check.same("not in the zone", Scene.refuge(x), 12);
        x.setTerrain(12, 5, false);
        x.setTerrain(11, 4, false);
        Check.same("a mountain is in no zone", Scene.refuge(x), 11);
        x.setTerrain(30, 4, false);
        Check.same("the greatest distance", Scene.refuge(x), 30);
    }

    private static void promise21RetreatByUnits() {
        Played x = Scene.facing(9, 4);
        x.setTerrain(22, 5, false);
        x.setTerrain(12, 5, false);
        x.add(0, 30, 1, 1);
        Check.same("no cell out of the zone", Scene.refuge(x), 21);
        x.add(1, 29, 7, 1);
        Check.same("a unit in the zone", Scene.refuge(x), 29);
        x.add(1, 29, 2, 1);
        Check.same("12 with it", Scene.refuge(x), 29);
        x.undo();
        x.add(1, 29, 3, 1);
        Check.same("13 with it", Scene.refuge(x), 21);
        x.undo();
        x.add(1, 29, 1, 1);
        x.add(1, 29, 1, 1);
        Check.same("three others", Scene.refuge(x), 21);
    }

    private static void promise21RetreatInOrder() {
        Played x = Scene.facing(6, 3);
        x.add(0, 20, 6, 1);
        x.add(1, 21, 2, 1);
        x.add(1, 21, 1, 1);
        x.add(1, 12, 9, 1);
        Check.same("12 on 6", x.attack(20, 21), 2);
        Check.strengths(x, 6, 2, 6, 1, 0, 9);
        Check.same("the first one to a cell with room", x.unit(1, 1), 12);
        Check.same("the second one as well", x.unit(3, 1), 12);
        Played y = Scene.facing(6, 3);
        y.add(0, 20, 6, 1);
        y.add(1, 21, 2, 1);
        y.add(1, 12, 9, 1);
        y.add(1, 12, 1, 1);
        Check.same("12 on 5", y.attack(20, 21), 2);
        Check.same("the first one", y.unit(1, 1), 12);
        Check.same("the second one finds no room there", y.unit(3, 1), 22);
    }

    private static void promise21NoRetreat() {
        Played x = Scene.facing(9, 4);
        for (int cell : new int[] {22, 12, 30}) {
            x.setTerrain(cell, 5, false);
        }
        Check.same("9 on 4", x.attack(20, 21), 2);
        Check.strengths(x, 9, 1);
        Check.same("unit(1, 1)", x.unit(1, 1), 21);
        Check.same("account(1, 2)", x.account(1, 2), 3);
        x.undo();
        x.add(0, 20, 3, 1);
        x.add(1, 21, 2, 1);
        Check.same("12 on 6", x.attack(20, 21), 2);
        Check.strengths(x, 9, 1, 3, 0);
        Check.same("account(1, 2) of what they had", x.account(1, 2), 5);
        Check.same("account(1, 5)", x.account(1, 5), 1);
        Check.same("cell(21, 4)", x.cell(21, 4), 1);
    }

    private static void promise21FirstUnitRetreats() {
        Played x = new Played();
        x.add(1, 21, 4, 1);
        x.add(0, 20, 9, 1);
        Check.same("5 on 2", x.attack(20, 21), 2);
        Check.same("unit(0, 1)", x.unit(0, 1), 12);
        Check.same("unit(0, 2)", x.unit(0, 2), 3);
    }

    private static void promise22Turns() {
        Played x = new Played();
        for (int i = 0; i < 6; i++) {
            Check.same("count(1)", x.count(1), i / 2);
            Check.same("count(2)", x.count(2), i % 2);
            Check.same("endTurn()", x.endTurn(), 0);
        }
    }

    private static void promise22Supply() {
        Played x = new Played();
        x.setSource(0, 0, true);
        x.add(0, 0, 1, 1);
        x.add(0, 10, 1, 1);
        x.add(0, 11, 2, 1);
        x.add(1, 30, 1, 1);
        x.add(1, 31, 2, 1);
        x.set(false, 2);
        Check.same("endTurn() of side 0", x.endTurn(), 0);
        Check.strengths(x, 1, 1, 1, 1, 2);
        Check.same("endTurn() of side 1", x.endTurn(), 1);
        Check.strengths(x, 1, 1, 1, 0, 1);
        x.set(false, 1);
        Check.same("endTurn() of side 0 with a range of 1", x.endTurn(), 2);
        Check.strengths(x, 1, 0, 0, 0, 1);
        Check.same("account(0, 3)", x.account(0, 3), 3);
        Check.same("account(0, 5)", x.account(0, 5), 2);
        Check.same("account(1, 3)", x.account(1, 3), 2);
        Check.same("account(0, 2)", x.account(0, 2), 0);
    }

    private static void promise22Weather() {
        Played x = new Played();
        x.start(7);
        int[] dues = {0, 0, 0, 0, 2, 0, 0, 0, 2, 0, 2, 1};
        for (int due : dues) {
            x.set(true, 1);
            x.endTurn();
            Check.same("weather stays until the round ends", x.count(3), 1);
            x.set(true, 2);
            x.endTurn();
            Check.same("weather of a new round", x.count(3), due);
        }
    }

    private static void promise23Account() {
        Played x = Scene.busy();
        int[][] dues = {{12, 12, 0, 0, 2, 0}, {5, 4, 1, 0, 1, 1}};
        for (int side = 0; side < 2; side++) {
            for (int what = 0; what < 6; what++) {
                Check.same("account(" + side + ", " + what + ")", x.account(side, what), dues[side][what]);
            }
        }
        x.setSource(26, 1, false);
        x.endTurn();
        Check.same("account(1, 3)", x.account(1, 3), 1);
        Check.same("account(1, 1)", x.account(1, 1), 3);
        x.add(1, 60, 9, 1);
        Check.same("account(1, 0)", x.account(1, 0), 14);
        x.start(0);
        Check.same("account(1, 0) after start", x.account(1, 0), 0);
    }

    private static void promise23Refusals() {
        Played x = new Played();
        for (int side : new int[] {-1, 2, Integer.MIN_VALUE, Integer.MAX_VALUE}) {
            Check.refused("account(" + side + ", 9)", IndexOutOfBoundsException.class, () -> x.account(side, 9));
        }
        for (int what : new int[] {-1, 6, Integer.MIN_VALUE, Integer.MAX_VALUE}) {
            Check.refused("account(0, " + what + ")", IllegalArgumentException.class, () -> x.account(0, what));
        }
    }

    private static void promise24Balance() {
        Played x = new Played();
        Check.refused("balance()", ArithmeticException.class, x::balance);
        x.add(0, 0, 5, 1);
        x.add(1, 62, 1, 1);
        Check.same("3 by 1", x.balance(), 3.0);
        x.undo();
        Check.refused("balance() without units of side 1", ArithmeticException.class, x::balance);
        x.add(1, 62, 9, 1);
        Check.same("3 by 5", x.balance(), 3.0 / 5.0);
        x.setSource(62, 1, true);
        Check.same("3 by 9", x.balance(), 3.0 / 9.0);
        x.setSource(0, 0, true);
        x.add(0, 30, 8, 1);
        Check.same("13 by 9", x.balance(), 13.0 / 9.0);
        x.start(0);
        x.add(1, 62, 9, 1);
        Check.same("balance() without units of side 0", x.balance(), 0.0);
    }
}
