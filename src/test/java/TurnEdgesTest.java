/** The edges in the chapter "Turns", and of the promises 2, 9 and 22. */
public final class TurnEdgesTest {
    private static final int[] WEATHERS = {0, 0, 0, 1, 1, 2};

    public static void main(String[] args) {
        firstTurn();
        roundsBeginAfterSideOne();
        newTurnsForAllUnits();
        lossesAtTheEndOfTheOwnTurn();
        lastStrengthWithoutSupply();
        sixteenUnitsAreRemoved();
        suppliedAtTheEnd();
        suppliedInTheWeatherOfTheTurn();
        allAreLookedAtFirst();
        weatherThatWasSet();
        weatherOfTheFirstRounds();
        eachRestOfSix();
        numbersWithOverflow();
        seedsOfStart();
        weatherTakenBack();
        Check.end();
    }

    /** "It is the turn of side 0 at first, in round 0." */
    private static void firstTurn() {
        Played x = new Played();
        Check.same("count(1)", x.count(1), 0);
        Check.same("count(2)", x.count(2), 0);
        Check.same("endTurn() without units", x.endTurn(), 0);
        Check.same("count(1)", x.count(1), 0);
        Check.same("count(2)", x.count(2), 1);
    }

    /** "Then it is the turn of the other side; after that of side 1, the next round begins". */
    private static void roundsBeginAfterSideOne() {
        Played x = new Played();
        for (int turn = 0; turn < 100; turn++) {
            Check.same("the round of turn " + turn, x.count(1), turn / 2);
            Check.same("the side of turn " + turn, x.count(2), turn % 2);
            x.endTurn();
        }
        x.start(0);
        Check.same("the round after start", x.count(1), 0);
        x.endTurn();
        x.start(0);
        Check.same("the side after start", x.count(2), 0);
    }

    /** "In a turn, each unit of the side can move once": again in each turn of its side. */
    private static void newTurnsForAllUnits() {
        Played x = new Played();
        x.setSource(31, 0, true);
        x.setSource(33, 1, true);
        x.add(0, 31, 9, 1);
        x.add(1, 33, 9, 1);
        for (int turn = 0; turn < 6; turn++) {
            int unit = turn % 2;
            int other = 1 - unit;
            int goal = x.unit(unit, 1) % 9 == 4 ? 30 : 31;
            Check.same("unit(.., 7) of the turn", x.unit(unit, 7), 1);
            Check.same("unit(.., 8) of the turn", x.unit(unit, 8), 1);
            Check.same("unit(.., 7) of the other turn", x.unit(other, 7), 0);
            Check.same("unit(.., 8) of the other turn", x.unit(other, 8), 0);
            if (unit == 0) {
                x.move(0, goal);
                Check.same("unit(.., 7) after a move", x.unit(0, 7), 0);
            }
            x.endTurn();
        }
    }

    /** "At the end of the turn of a side, each of its units that is not supplied then loses 1". */
    private static void lossesAtTheEndOfTheOwnTurn() {
        Played x = new Played();
        x.add(0, 0, 5, 1);
        x.add(1, 62, 5, 1);
        x.add(0, 31, 5, 1);
        x.setSource(31, 0, true);
        x.set(false, 1);
        int[][] dues = {{4, 5}, {4, 4}, {3, 4}, {3, 3}, {2, 3}, {2, 2}};
        for (int[] due : dues) {
            Check.same("endTurn()", x.endTurn(), 0);
            Check.same("unit(0, 2)", x.unit(0, 2), due[0]);
            Check.same("unit(1, 2)", x.unit(1, 2), due[1]);
            Check.same("unit(2, 2) with supply", x.unit(2, 2), 5);
        }
        Check.same("account(0, 3)", x.account(0, 3), 3);
        Check.same("account(1, 3)", x.account(1, 3), 3);
        Check.same("account(0, 2)", x.account(0, 2), 0);
    }

    /** "A unit whose strength would become 0 or less loses what it has and is removed". */
    private static void lastStrengthWithoutSupply() {
        Played x = new Played();
        x.add(0, 0, 1, 1);
        x.add(0, 2, 2, 1);
        x.add(1, 62, 1, 1);
        Check.same("endTurn() of side 0", x.endTurn(), 1);
        Check.refused("unit(0, 2)", IndexOutOfBoundsException.class, () -> x.unit(0, 2));
        Check.same("unit(1, 2)", x.unit(1, 2), 1);
        Check.same("unit(2, 2)", x.unit(2, 2), 1);
        Check.same("count(0)", x.count(0), 2);
        Check.same("account(0, 3)", x.account(0, 3), 2);
        Check.same("account(0, 5)", x.account(0, 5), 1);
        Check.same("endTurn() of side 1", x.endTurn(), 1);
        Check.same("endTurn() of side 0", x.endTurn(), 1);
        Check.same("count(0)", x.count(0), 0);
        Check.same("endTurn() without units", x.endTurn(), 0);
    }

    /** "Returns the number of units that were removed": all 16. */
    private static void sixteenUnitsAreRemoved() {
        Played x = new Played();
        x.endTurn();
        for (int i = 0; i < 16; i++) {
            x.add(1, i, 1, 1);
        }
        Check.same("endTurn()", x.endTurn(), 16);
        Check.same("account(1, 5)", x.account(1, 5), 16);
        Check.same("account(1, 3)", x.account(1, 3), 16);
        Check.same("account(1, 4)", x.account(1, 4), 0);
    }

    /** "Not supplied then": where it is at the end of the turn. */
    private static void suppliedAtTheEnd() {
        Played x = Scene.corridor("ppppp");
        x.set(false, 2);
        x.setSource(18, 0, true);
        x.add(0, 20, 5, 2);
        x.add(0, 21, 5, 2);
        Check.same("unit(0, 6)", x.unit(0, 6), 1);
        Check.same("unit(1, 6)", x.unit(1, 6), 0);
        x.move(0, 21);
        x.move(1, 20);
        x.endTurn();
        Check.same("a unit that has left the supply", x.unit(0, 2), 4);
        Check.same("a unit that has come to the supply", x.unit(1, 2), 5);
    }

    /** The new weather comes after the losses. */
    private static void suppliedInTheWeatherOfTheTurn() {
        Played x = Scene.corridor("ppp");
        x.set(false, 2);
        x.setSource(18, 1, true);
        x.add(1, 20, 5, 2);
        x.set(true, 1);
        x.endTurn();
        Check.same("endTurn()", x.endTurn(), 0);
        Check.same("the new weather", x.count(3), 0);
        Check.same("a loss with the rain before", x.unit(0, 2), 4);
        Check.same("unit(0, 6) when it is dry", x.unit(0, 6), 1);
    }

    /** "All of them are looked at before one loses": one that is removed was a unit of the side until then. */
    private static void allAreLookedAtFirst() {
        Played x = Scene.corridor("ppppp");
        x.setTerrain(10, 0, false);
        x.setSource(18, 0, true);
        x.set(false, 1);
        x.add(1, 10, 5, 1);
        x.add(0, 20, 1, 1);
        x.add(0, 19, 1, 1);
        Check.same("supplyCost(0, 20)", x.supplyCost(0, 20), 2);
        Check.same("endTurn()", x.endTurn(), 1);
        Check.same("a unit at the supply range", x.unit(2, 2), 1);
        Check.refused("a unit beyond it", IndexOutOfBoundsException.class, () -> x.unit(1, 2));
    }

    /** "With new weather, in place of any weather that was set". */
    private static void weatherThatWasSet() {
        for (int weather = 0; weather <= 2; weather++) {
            Played x = new Played();
            x.set(true, weather);
            x.endTurn();
            Check.same("the weather within a round", x.count(3), weather);
            x.endTurn();
            Check.same("the weather of round 1", x.count(3), weathers(0, 1)[0]);
            Check.same("the sight range of round 1", x.count(5), 4);
        }
    }

    /** The weather of so many rounds, reckoned in longs that are cut to 32 bits. */
    private static int[] weathers(int seed, int rounds) {
        int[] found = new int[rounds];
        long z = seed & 0xFFFFFFFFL;
        for (int round = 0; round < rounds; round++) {
            z = (z * 1103515245L + 12345L) & 0xFFFFFFFFL;
            found[round] = WEATHERS[(int) ((z >> 16) % 6)];
        }
        return found;
    }

    private static void played(Played x, int seed, int rounds) {
        int[] dues = weathers(seed, rounds);
        for (int round = 0; round < rounds; round++) {
            x.endTurn();
            x.endTurn();
            Check.same("the weather of the seed " + seed + " in round " + (round + 1), x.count(3), dues[round]);
        }
    }

    /** "With the seed 0": 12345 >>> 16 is 0, so that it is dry at first. */
    private static void weatherOfTheFirstRounds() {
        played(new Played(), 0, 160);
    }

    /** "The weather is dry for 0 to 2, rain for 3 and 4, and snow for 5": one seed for each rest. */
    private static void eachRestOfSix() {
        int[] seeds = new int[6];
        int found = 0;
        for (int seed = -40; seed < 40; seed++) {
            long z = (seed * 1103515245L + 12345L) & 0xFFFFFFFFL;
            int rest = (int) ((z >> 16) % 6);
            if (seeds[rest] == 0 && seed != 0) {
                seeds[rest] = seed;
                found++;
            }
        }
        Check.same("rests with a seed", found, 6);
        for (int rest = 0; rest < 6; rest++) {
            Played x = new Played();
            x.start(seeds[rest]);
            x.endTurn();
            x.endTurn();
            Check.same("the weather for the rest " + rest, x.count(3), WEATHERS[rest]);
        }
    }

    /** "With overflow": the greatest and the least seed, and numbers that become negative. */
    private static void numbersWithOverflow() {
        for (int seed : new int[] {1, -1, 2, 7, Integer.MAX_VALUE, Integer.MIN_VALUE, 65536, -65536,
            1103515245, 123456789, -987654321}) {
            Played x = new Played();
            x.start(seed);
            played(x, seed, 60);
        }
        Played x = new Played();
        x.start(2);
        x.endTurn();
        x.endTurn();
        // z is -2087924461, z >>> 16 is 33676, and its rest is 4; z >> 16 would be -31860 with the rest 0.
        Check.same("the weather for a negative number", x.count(3), 1);
    }

    /** "Seed: the seed, any int"; the number begins anew with it. */
    private static void seedsOfStart() {
        Played x = new Played();
        played(x, 0, 20);
        Check.same("start(5)", x.start(5), 0);
        Check.same("dry weather", x.count(3), 0);
        played(x, 5, 40);
        x.start(5);
        played(x, 5, 40);
    }

    /** A turn that is taken back, is played again with the same weather. */
    private static void weatherTakenBack() {
        Played x = new Played();
        x.start(1);
        int[] dues = weathers(1, 40);
        for (int round = 0; round < 40; round++) {
            x.endTurn();
            x.endTurn();
            x.undo();
            Check.same("the round before", x.count(1), round);
            Check.same("the weather before", x.count(3), round == 0 ? 0 : dues[round - 1]);
            x.endTurn();
            Check.same("the weather again", x.count(3), dues[round]);
        }
    }
}
