import java.util.NoSuchElementException;

/** The edges in the chapter "Attacks", and of the promises 20, 21 and 23. */
public final class AttackEdgesTest {
    public static void main(String[] args) {
        twiceTheDefense();
        bonusOfTheTerrain();
        bonusForSeveralUnits();
        minusOneWithRain();
        attackOfNothing();
        halvesWithoutSupply();
        unitsThatHaveNotAttacked();
        notTwiceOnTwoCells();
        noUnitsThatCouldAttack();
        noUnitsThatCouldBeAttacked();
        neighborsAlone();
        unitsThatHaveMoved();
        attacksAreCounted();
        lossesOfAllAttackers();
        lossesOfTheLowestNumbers();
        lossesOfAllThatAreAttacked();
        losesWhatItHas();
        lastStrengthOfAnAttacker();
        lastStrengthOfTheLowest();
        retreatToTheGreatestDistance();
        retreatByTheLeastCost();
        retreatFromOffTheRoad();
        retreatByTheLowestNumber();
        noRetreatToWater();
        noRetreatIntoTheZone();
        noRetreatIntoAHiddenZone();
        retreatIntoTheZoneToItsOwn();
        noRetreatToTheOtherSide();
        retreatWithRoomForTwelve();
        retreatWithRoomForThree();
        retreatsInAscendingOrder();
        noRetreatInTheCorner();
        retreatsOfSideZero();
        retreatOfSideZeroToItsOwn();
        unitsOfAllNumbers();
        whoWasAttackedCanAttack();
        whatOfAnAccount();
        accountsOfLosses();
        Check.end();
    }

    private static int resultOf(int attack, int defense) {
        return attack >= 2 * defense ? 2 : attack > defense ? 1 : 0;
    }

    /** "At least twice the defense", "greater than the defense", for all sums of strengths. */
    private static void twiceTheDefense() {
        for (int strength = 1; strength <= 12; strength++) {
            for (int other = 1; other <= 12; other++) {
                Played x = Scene.facing(strength, other);
                String what = " of " + strength + " on " + other;
                Check.same("odds" + what, x.odds(20, 21, false), strength);
                Check.same("odds of the defense" + what, x.odds(20, 21, true), other);
                Check.same("attack" + what, x.attack(20, 21), resultOf(strength, other));
            }
        }
    }

    /** "Plus 1 in a wood, 2 on a hill, and 3 on a mountain", of the cell that is attacked. */
    private static void bonusOfTheTerrain() {
        int[] bonuses = {0, 1, 2, 0, 3};
        for (int terrain = 0; terrain <= 4; terrain++) {
            for (int strength = 1; strength <= 12; strength++) {
                Played x = Scene.facing(strength, 2);
                x.setTerrain(20, 4 - terrain, false);
                x.setTerrain(21, terrain, false);
                int defense = 2 + bonuses[terrain];
                Check.same("odds(20, 21, true)", x.odds(20, 21, true), defense);
                Check.same("odds(20, 21, false)", x.odds(20, 21, false), strength);
                Check.same("attack of " + strength + " on " + defense, x.attack(20, 21),
                        resultOf(strength, defense));
            }
        }
    }

    /** The sum of the forces and one bonus, not one for each unit. */
    private static void bonusForSeveralUnits() {
        int[] bonuses = {0, 1, 2, 0, 3};
        for (int terrain = 0; terrain <= 4; terrain++) {
            Played x = Scene.facing(12, 1);
            x.add(1, 21, 2, 1);
            x.add(1, 21, 3, 1);
            x.setTerrain(21, terrain, true);
            Check.same("the defense of three units", x.odds(20, 21, true), 6 + bonuses[terrain]);
            Check.same("the attack on three units", x.attack(20, 21), terrain % 3 == 0 ? 2 : 1);
        }
    }

    /** "Minus 1 with rain", once for all units, and not for the defense. */
    private static void minusOneWithRain() {
        for (int strength = 1; strength <= 12; strength++) {
            Played x = Scene.facing(strength, 3);
            x.set(true, 2);
            Check.same("odds with snow", x.odds(20, 21, false), strength);
            x.set(true, 1);
            Check.same("odds with rain", x.odds(20, 21, false), strength - 1);
            Check.same("odds of the defense with rain", x.odds(20, 21, true), 3);
            Check.same("attack with rain", x.attack(20, 21), resultOf(strength - 1, 3));
        }
    }

    /** An attack of 0 is no success, whatever is attacked. */
    private static void attackOfNothing() {
        Played x = Scene.facing(1, 1);
        x.set(true, 1);
        Check.same("odds(20, 21, false)", x.odds(20, 21, false), 0);
        Check.same("odds(20, 21, true)", x.odds(20, 21, true), 1);
        Check.same("attack(20, 21)", x.attack(20, 21), 0);
        Check.strengths(x, 0, 1);
        Check.same("count(0)", x.count(0), 1);
        Check.same("count(7)", x.count(7), 1);
    }

    /** "The sum of the forces": each half is rounded up, not that of the sum. */
    private static void halvesWithoutSupply() {
        Played x = new Played();
        for (int i = 0; i < 3; i++) {
            x.add(0, 20, 3, 5);
            x.add(1, 21, 1, 5);
        }
        Check.same("three halves of 3", x.odds(20, 21, false), 6);
        Check.same("three halves of 1", x.odds(20, 21, true), 3);
        Check.same("attack of 6 on 3", x.attack(20, 21), 2);
    }

    /** "The units of a side on a cell that have not attacked in this turn of the side". */
    private static void unitsThatHaveNotAttacked() {
        Played x = Scene.facing(2, 9);
        x.attack(20, 21);
        x.add(0, 20, 9, 5);
        Check.same("odds of the new one", x.odds(20, 21, false), 9);
        Check.same("attack of 9 on 9", x.attack(20, 21), 0);
        Check.strengths(x, 1, 9, 8);
        Check.refusedUnchanged(x, "a third attack", NoSuchElementException.class, () -> x.attack(20, 21));
        x.endTurn();
        x.endTurn();
        Check.same("odds in the next round", x.odds(20, 21, false) + (x.count(3) == 1 ? 1 : 0), 9);
    }

    /** "In a turn, each unit of the side can [..] attack once", on whatever cell. */
    private static void notTwiceOnTwoCells() {
        Played x = Scene.facing(9, 9);
        x.add(1, 19, 9, 5);
        x.attack(20, 21);
        Check.refusedUnchanged(x, "an attack on another cell", NoSuchElementException.class,
                () -> x.attack(20, 19));
        Check.refused("odds on another cell", NoSuchElementException.class, () -> x.odds(20, 19, false));
        Check.refused("defense of another cell", NoSuchElementException.class, () -> x.odds(20, 19, true));
        x.undo();
        Check.same("an attack that was taken back", x.attack(20, 19), 0);
    }

    private static void none(Played x, int from, int to) {
        Check.refused("odds(" + from + ", " + to + ", false)", NoSuchElementException.class,
                () -> x.odds(from, to, false));
        Check.refused("odds(" + from + ", " + to + ", true)", NoSuchElementException.class,
                () -> x.odds(from, to, true));
        Check.refusedUnchanged(x, "attack(" + from + ", " + to + ")", NoSuchElementException.class,
                () -> x.attack(from, to));
    }

    /** "If there is no unit that could attack": none at all, or of the side whose turn it is not. */
    private static void noUnitsThatCouldAttack() {
        Played x = Scene.facing(5, 5);
        none(x, 22, 21);
        none(x, 21, 20);
        none(x, 11, 12);
        x.endTurn();
        none(x, 20, 21);
        Check.same("odds of side 1 on its turn", x.odds(21, 20, false), 5);
    }

    /** "Or none that could be attacked": no unit, or one of its own side. */
    private static void noUnitsThatCouldBeAttacked() {
        Played x = Scene.facing(5, 1);
        x.add(0, 19, 1, 1);
        none(x, 20, 11);
        none(x, 20, 19);
        Check.same("attack(20, 21)", x.attack(20, 21), 2);
        x.add(0, 20, 5, 1);
        none(x, 20, 21);
    }

    /** "If they are no neighbors": the cell itself, two steps, and around the edge of the map. */
    private static void neighborsAlone() {
        Played x = Scene.facing(5, 5);
        x.add(0, 8, 5, 1);
        x.add(1, 9, 5, 1);
        int[][] pairs = {{20, 20}, {20, 22}, {20, 12}, {21, 19}, {8, 9}, {9, 8}, {0, 62}, {20, 30}};
        for (int[] p : pairs) {
            for (boolean isDefense : new boolean[] {false, true}) {
                Check.refused("odds(" + p[0] + ", " + p[1] + ")", IllegalArgumentException.class,
                        () -> x.odds(p[0], p[1], isDefense));
            }
            Check.refusedUnchanged(x, "attack(" + p[0] + ", " + p[1] + ")", IllegalArgumentException.class,
                    () -> x.attack(p[0], p[1]));
        }
    }

    /** "It cannot move after it has attacked": the other way round it can. */
    private static void unitsThatHaveMoved() {
        Played x = Scene.facing(5, 1);
        x.add(0, 18, 5, 4);
        Check.same("move(2, 20)", x.move(2, 20), 20);
        Check.same("odds of both", x.odds(20, 21, false), 10);
        Check.same("attack of both", x.attack(20, 21), 2);
    }

    /** "The attacks so far": each attack, no refused one, no odds, none that was taken back. */
    private static void attacksAreCounted() {
        Played x = Scene.facing(5, 9);
        Check.same("count(7) at first", x.count(7), 0);
        x.odds(20, 21, false);
        Check.refused("attack(20, 19)", NoSuchElementException.class, () -> x.attack(20, 19));
        Check.same("count(7) without an attack", x.count(7), 0);
        x.attack(20, 21);
        Check.same("count(7) of side 0", x.count(7), 1);
        x.endTurn();
        x.attack(21, 20);
        Check.same("count(7) of both sides", x.count(7), 2);
        x.undo();
        Check.same("count(7) after undo", x.count(7), 1);
    }

    /** "Otherwise the result is 0: each attacking unit loses 1." */
    private static void lossesOfAllAttackers() {
        Played x = Scene.facing(2, 9);
        x.add(0, 20, 1, 5);
        x.add(0, 20, 3, 5);
        Check.same("attack of 6 on 9", x.attack(20, 21), 0);
        Check.strengths(x, 1, 9, 0, 2);
        Check.same("account(0, 2)", x.account(0, 2), 3);
        Check.same("account(0, 5)", x.account(0, 5), 1);
        Check.same("account(1, 2)", x.account(1, 2), 0);
    }

    /** "Of the units that attack, the one with the lowest number", not one that has attacked before. */
    private static void lossesOfTheLowestNumbers() {
        Played x = Scene.facing(2, 5);
        x.add(1, 21, 1, 5);
        x.attack(20, 21);
        x.add(0, 20, 4, 5);
        x.add(0, 20, 3, 5);
        Check.same("attack of 7 on 6", x.attack(20, 21), 1);
        Check.strengths(x, 1, 4, 1, 3, 3);
        Check.same("account(0, 2)", x.account(0, 2), 2);
        Check.same("account(1, 2)", x.account(1, 2), 1);
    }

    /** "Each attacked unit loses 1 of its strength, and those that remain retreat." */
    private static void lossesOfAllThatAreAttacked() {
        Played x = Scene.facing(10, 1);
        x.add(1, 21, 3, 5);
        x.add(1, 21, 1, 5);
        Check.same("attack of 10 on 5", x.attack(20, 21), 2);
        Check.strengths(x, 9, 1, 0, 2, 0);
        Check.same("unit(3, 1)", x.unit(3, 1), 12);
        Check.same("cell(21, 3)", x.cell(21, 3), 0);
        Check.same("account(1, 2)", x.account(1, 2), 3);
        Check.same("account(1, 5)", x.account(1, 5), 2);
        Check.same("account(0, 2)", x.account(0, 2), 0);
    }

    /** "If there is none, it stays and loses 2 more", "a unit [..] loses what it has and is removed". */
    private static void losesWhatItHas() {
        int[] left = {0, 0, 0, 0, 1, 2, 3};
        int[] lost = {0, 1, 2, 3, 3, 3, 3};
        for (int strength = 1; strength <= 6; strength++) {
            Played x = Scene.facing(12, strength);
            for (int cell : new int[] {12, 22, 30}) {
                x.setTerrain(cell, 5, false);
            }
            Check.same("attack on " + strength, x.attack(20, 21), 2);
            Check.strengths(x, 9, 3, left[strength]);
            Check.same("account(1, 2) of " + strength, x.account(1, 2), lost[strength]);
            Check.same("account(1, 5) of " + strength, x.account(1, 5), left[strength] == 0 ? 1 : 0);
            Check.same("account(1, 4) of " + strength, x.account(1, 4), left[strength] == 0 ? 0 : 1);
            Check.same("it stays", x.cell(21, 4), left[strength]);
        }
    }

    /** "Otherwise the result is 0: each attacking unit loses 1", also its last one. */
    private static void lastStrengthOfAnAttacker() {
        Played x = Scene.facing(1, 1);
        Check.same("attack of 1 on 1", x.attack(20, 21), 0);
        Check.strengths(x, 0, 1);
        Check.same("account(0, 5)", x.account(0, 5), 1);
        Check.same("cell(20, 3)", x.cell(20, 3), 0);
        Played y = Scene.facing(2, 2);
        Check.same("attack of 2 on 2", y.attack(20, 21), 0);
        Check.strengths(y, 1, 2);
    }

    /** "The one with the lowest number, lose 1 each", also their last one. */
    private static void lastStrengthOfTheLowest() {
        Played x = Scene.facing(1, 1);
        x.add(0, 20, 4, 5);
        x.add(1, 21, 2, 5);
        Check.same("attack of 5 on 3", x.attack(20, 21), 1);
        Check.strengths(x, 0, 0, 4, 2);
        Check.same("account(0, 5)", x.account(0, 5), 1);
        Check.same("account(1, 5)", x.account(1, 5), 1);
        Check.same("the others stay", x.cell(20, 3) | x.cell(21, 3), 0b1100);
    }

    /** "To that with the greatest distance from the cell of the attackers". */
    private static void retreatToTheGreatestDistance() {
        Played x = Scene.facing(9, 2);
        x.setTerrain(11, 4, true);
        x.setTerrain(21, 0, true);
        for (int cell : new int[] {12, 22, 30}) {
            x.setTerrain(cell, 4, false);
        }
        Check.same("a distance of 2 with the cost 4", Scene.refuge(x), 12);
        x.setTerrain(12, 5, false);
        x.setTerrain(22, 5, false);
        Check.same("the last one with a distance of 2", Scene.refuge(x), 30);
        x.setTerrain(30, 5, false);
        Check.same("a mountain beside the attackers", Scene.refuge(x), 11);
    }

    /** "Then the least cost of the step", by terrain, weather and road. */
    private static void retreatByTheLeastCost() {
        int[][] costs = {{1, 2, 2, 3, 4}, {2, 3, 3, 5, 5}, {2, 3, 3, 2, 6}};
        for (int weather = 0; weather <= 2; weather += 2) {
            for (int one = 0; one <= 4; one++) {
                for (int other = 0; other <= 4; other++) {
                    Played x = Scene.facing(9, 2);
                    x.set(true, weather);
                    x.setTerrain(12, one, true);
                    x.setTerrain(22, 5, false);
                    x.setTerrain(30, other, false);
                    Check.same("refuge of " + one + " and " + other, Scene.refuge(x),
                            costs[weather][other] < costs[weather][one] ? 30 : 12);
                    x.setTerrain(30, other, true);
                    x.setTerrain(21, 0, true);
                    Check.same("refuge by roads", Scene.refuge(x), 12);
                    x.setTerrain(12, one, false);
                    Check.same("refuge by a road", Scene.refuge(x), costs[weather][one] > 1 ? 30 : 12);
                }
            }
        }
    }

    /** "1 if both cells have a road": 30 has one, but the cell from which it retreats has none. */
    private static void retreatFromOffTheRoad() {
        int[] costs = {1, 2, 2, 3, 4};
        for (int one = 0; one <= 4; one++) {
            for (int other = 0; other <= 4; other++) {
                Played x = Scene.facing(9, 2);
                x.setTerrain(12, one, false);
                x.setTerrain(22, 5, false);
                x.setTerrain(30, other, true);
                Check.same("refuge of " + one + " and of the road in " + other, Scene.refuge(x),
                        costs[other] < costs[one] ? 30 : 12);
            }
        }
    }

    /** "Then the lowest number". */
    private static void retreatByTheLowestNumber() {
        Played x = Scene.facing(9, 2);
        Check.same("of 12, 22 and 30", Scene.refuge(x), 12);
        x.setTerrain(12, 1, false);
        Check.same("of 22 and 30", Scene.refuge(x), 22);
        x.setTerrain(22, 2, false);
        x.setTerrain(30, 1, false);
        Check.same("of 12, 22 and 30 with the cost 2", Scene.refuge(x), 12);
    }

    /** "A unit retreats to a neighbor of its cell that is not water". */
    private static void noRetreatToWater() {
        Played x = Scene.facing(9, 4);
        for (int cell : new int[] {12, 22}) {
            x.setTerrain(cell, 5, false);
            Check.same("no retreat to " + cell, Scene.refuge(x), cell == 12 ? 22 : 30);
        }
        x.setTerrain(30, 5, false);
        Check.same("no retreat", Scene.refuge(x), 21);
    }

    /** "Is not in the zone of the other side, by all its units", not only of those that attack. */
    private static void noRetreatIntoTheZone() {
        Played x = Scene.facing(9, 4);
        x.add(0, 13, 1, 1);
        Check.same("12 and 22 are in the zone", Scene.refuge(x), 30);
        x.add(0, 39, 1, 1);
        Check.same("30 is, too", Scene.refuge(x), 21);
        x.setTerrain(22, 4, false);
        Check.same("a mountain is not", Scene.refuge(x), 22);
    }

    /** "By all its units": one that the retreating side does not see, too. */
    private static void noRetreatIntoAHiddenZone() {
        Played x = Scene.facing(9, 4);
        x.setTerrain(12, 5, false);
        x.setTerrain(30, 5, false);
        x.setTerrain(22, 1, false);
        Check.same("a wood in no zone", Scene.refuge(x), 22);
        x.add(0, 23, 1, 1);
        Check.same("known(1)", x.known(1), 0b1);
        Check.same("a wood beside a hidden unit", Scene.refuge(x), 21);
    }

    /** "Or has a unit of its own side on it". */
    private static void retreatIntoTheZoneToItsOwn() {
        Played x = Scene.facing(9, 4);
        for (int cell : new int[] {12, 22, 30}) {
            x.setTerrain(cell, 5, false);
        }
        Check.same("no retreat beside the attackers", Scene.refuge(x), 21);
        x.add(1, 29, 1, 1);
        Check.same("a unit beside the attackers", Scene.refuge(x), 29);
        x.add(1, 11, 1, 1);
        Check.same("two units beside the attackers", Scene.refuge(x), 11);
        x.setTerrain(12, 0, false);
        Check.same("a cell farther off", Scene.refuge(x), 12);
    }

    /** "Has room for it": there is none with units of the other side, even on a mountain. */
    private static void noRetreatToTheOtherSide() {
        Played x = Scene.facing(9, 4);
        x.add(0, 12, 1, 1);
        x.setTerrain(12, 4, false);
        x.setTerrain(22, 4, false);
        x.setTerrain(30, 5, false);
        Check.same("no room with the other side", Scene.refuge(x), 22);
        x.setTerrain(22, 5, false);
        Check.same("no retreat", Scene.refuge(x), 21);
    }

    /** "Has room for it": by the strength that it has after its loss. */
    private static void retreatWithRoomForTwelve() {
        Played x = Scene.facing(9, 4);
        x.setTerrain(22, 5, false);
        x.setTerrain(30, 5, false);
        x.add(1, 12, 9, 1);
        Check.same("12 with the strength of 3", Scene.refuge(x), 12);
        x.undo();
        x.add(1, 12, 8, 1);
        x.add(1, 12, 2, 1);
        Check.same("13 with the strength of 3", Scene.refuge(x), 21);
        x.undo();
        x.add(1, 12, 1, 1);
        Check.same("12 with two others", Scene.refuge(x), 12);
    }

    /** "Has room for it": with two other units, not with three. */
    private static void retreatWithRoomForThree() {
        Played x = Scene.facing(9, 2);
        x.setTerrain(22, 5, false);
        x.setTerrain(30, 2, false);
        for (int others = 0; others <= 3; others++) {
            Check.same("refuge with " + others + " others", Scene.refuge(x), others < 3 ? 12 : 30);
            if (others < 3) {
                x.add(1, 12, 1, 1);
            }
        }
    }

    /** "In ascending order of units, each one by the units that there are then and where they are". */
    private static void retreatsInAscendingOrder() {
        Played x = Scene.facing(12, 2);
        x.add(1, 21, 2, 1);
        x.add(1, 21, 2, 1);
        x.add(1, 12, 1, 1);
        x.add(1, 12, 1, 1);
        Check.same("attack of 12 on 6", x.attack(20, 21), 2);
        Check.same("the first one takes the room", x.unit(2, 1), 12);
        Check.same("the second one goes on", x.unit(3, 1), 22);
        Check.same("the third one goes on", x.unit(4, 1), 22);
        Played y = Scene.facing(12, 3);
        y.add(1, 21, 2, 1);
        y.add(1, 21, 1, 1);
        y.add(1, 12, 9, 1);
        y.setTerrain(22, 5, false);
        y.setTerrain(30, 5, false);
        Check.same("attack of 12 on 6", y.attack(20, 21), 2);
        Check.same("a strength of 2 beside 9", y.unit(2, 1), 12);
        Check.same("a strength of 1 fills it", y.unit(3, 1), 12);
        Check.same("a strength of 12", y.cell(12, 4), 12);
        Check.strengths(y, 9, 3, 2, 1, 0, 9);
    }

    /** In the corner all other neighbors are beside the attackers on 1, and on 52. */
    private static void noRetreatInTheCorner() {
        for (int[] corner : new int[][] {{1, 0}, {9, 0}, {52, 62}}) {
            Played x = new Played();
            x.add(0, corner[0], 9, 1);
            x.add(1, corner[1], 4, 1);
            Check.same("attack on the corner", x.attack(corner[0], corner[1]), 2);
            Check.strengths(x, 9, 1);
            Check.same("it stays", x.unit(1, 1), corner[1]);
        }
        Played x = new Played();
        x.add(0, 53, 9, 1);
        x.add(1, 62, 4, 1);
        Check.same("attack(53, 62)", x.attack(53, 62), 2);
        Check.same("the third neighbor", x.unit(1, 1), 61);
    }

    /** On the turn of side 1 it attacks, and side 0 retreats. */
    private static void retreatsOfSideZero() {
        Played x = Scene.facing(2, 9);
        x.endTurn();
        Check.same("odds(21, 20, false)", x.odds(21, 20, false), 9);
        Check.same("odds(21, 20, true)", x.odds(21, 20, true), 2);
        Check.same("attack(21, 20)", x.attack(21, 20), 2);
        Check.same("unit(0, 1)", x.unit(0, 1), 10);
        Check.same("account(0, 2)", x.account(0, 2), 1);
    }

    /** "Or has a unit of its own side on it", for side 0, as unit 0 and as unit 1: 11 and 29 are in the zone. */
    private static void retreatOfSideZeroToItsOwn() {
        for (int unit = 0; unit <= 1; unit++) {
            Played x = new Played();
            x.setSource(21, 1, true);
            for (int cell : new int[] {10, 19, 28}) {
                x.setTerrain(cell, 5, false);
            }
            x.endTurn();
            // The side with this number comes first, so that the unit of side 0 gets the number.
            x.add(unit, 20 + unit, unit == 0 ? 4 : 9, 1);
            x.add(1 - unit, 21 - unit, unit == 0 ? 9 : 4, 1);
            Check.same("attack(21, 20) on unit " + unit, x.attack(21, 20), 2);
            Check.same("unit(.., 2) where it stays", x.unit(unit, 2), 1);
            Check.same("unit(.., 1) where it stays", x.unit(unit, 1), 20);
            x.undo();
            x.add(0, 29, 1, 1);
            Check.same("attack(21, 20) on unit " + unit, x.attack(21, 20), 2);
            Check.same("unit(.., 2) after its retreat", x.unit(unit, 2), 3);
            Check.same("unit(.., 1) after its retreat", x.unit(unit, 1), 29);
        }
    }

    /** The units on 20 and 21 have the numbers first and first + 1; those before them have no supply. */
    private static Played numbered(int first, int attack, int defense, boolean isDefenderFirst) {
        Played x = new Played();
        x.setSource(20, 0, true);
        x.setSource(21, 1, true);
        x.set(false, 1);
        x.setTerrain(21, 0, true);
        x.setTerrain(12, 1, false);
        x.setTerrain(22, 1, false);
        x.setTerrain(30, 1, true);
        for (int unit = 0; unit < first; unit++) {
            x.add(0, 54 + unit / 3, 1, 1);
        }
        if (isDefenderFirst) {
            x.add(1, 21, defense, 1);
        }
        x.add(0, 20, attack, 1);
        if (!isDefenderFirst) {
            x.add(1, 21, defense, 1);
        }
        return x;
    }

    /** Units of all numbers, up to 15, attack and are attacked, lose and retreat to 30 by road. */
    private static void unitsOfAllNumbers() {
        for (int first = 0; first < 15; first++) {
            for (int attack = 4; attack <= 8; attack++) {
                for (int order = 0; order <= 1; order++) {
                    Played x = numbered(first, attack, 4, order == 1);
                    int attacker = first + order;
                    int defender = first + 1 - order;
                    int due = attack == 4 ? 0 : attack < 8 ? 1 : 2;
                    Check.same("balance with " + first, x.balance(), (attack + first) / 4.0);
                    Check.same("odds(20, 21, false) of " + attacker, x.odds(20, 21, false), attack);
                    Check.same("odds(20, 21, true) of " + defender, x.odds(20, 21, true), 4);
                    Check.same("attack of " + attacker + " on " + defender, x.attack(20, 21), due);
                    Check.same("unit(" + attacker + ", 2)", x.unit(attacker, 2), due == 2 ? attack : attack - 1);
                    Check.same("unit(" + defender + ", 2)", x.unit(defender, 2), due == 0 ? 4 : 3);
                    Check.same("unit(" + defender + ", 1)", x.unit(defender, 1), due == 2 ? 30 : 21);
                    Check.same("endTurn() with " + first, x.endTurn(), first);
                }
            }
        }
    }

    /** "Attack once" in a turn of its own side: being attacked is none. */
    private static void whoWasAttackedCanAttack() {
        Played x = Scene.facing(9, 9);
        x.attack(20, 21);
        x.endTurn();
        Check.same("unit(1, 7)", x.unit(1, 7), 1);
        Check.same("unit(1, 8)", x.unit(1, 8), 1);
        Check.same("attack(21, 20) of 9 on 8", x.attack(21, 20), 1);
    }

    /** "What: 0 [..]; 5 the units that were removed"; all are 0 at first. */
    private static void whatOfAnAccount() {
        Played x = Scene.facing(5, 5);
        for (int what : new int[] {-1, 6, Integer.MIN_VALUE, Integer.MAX_VALUE}) {
            for (int side = 0; side <= 1; side++) {
                int s = side;
                Check.refused("account(" + side + ", " + what + ")", IllegalArgumentException.class,
                        () -> x.account(s, what));
            }
        }
        Played y = new Played();
        for (int what = 0; what <= 5; what++) {
            Check.same("account(0, " + what + ") at first", y.account(0, what), 0);
            Check.same("account(1, " + what + ") at first", y.account(1, what), 0);
        }
    }

    private static void accounts(Played x, int side, int... dues) {
        for (int what = 0; what < dues.length; what++) {
            Check.same("account(" + side + ", " + what + ")", x.account(side, what), dues[what]);
        }
    }

    /** What was added is what is left and what was lost, in attacks and for lack of supply. */
    private static void accountsOfLosses() {
        Played x = Scene.facing(1, 1);
        x.add(0, 40, 2, 1);
        accounts(x, 0, 3, 3, 0, 0, 2, 0);
        accounts(x, 1, 1, 1, 0, 0, 1, 0);
        x.attack(20, 21);
        accounts(x, 0, 3, 2, 1, 0, 1, 1);
        x.endTurn();
        accounts(x, 0, 3, 1, 1, 1, 1, 1);
        x.endTurn();
        x.endTurn();
        accounts(x, 0, 3, 0, 1, 2, 0, 2);
        accounts(x, 1, 1, 1, 0, 0, 1, 0);
        x.add(0, 0, 9, 1);
        accounts(x, 0, 12, 9, 1, 2, 1, 2);
        x.undo();
        accounts(x, 0, 3, 0, 1, 2, 0, 2);
    }
}
