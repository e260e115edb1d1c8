import java.util.NoSuchElementException;

/** What the document says of a side, it says of both: each test is played by side 0 and by side 1. */
public final class SidesTest {
    public static void main(String[] args) {
        for (int side = 0; side <= 1; side++) {
            supply(side);
            sight(side);
            stops(side);
            ambushes(side);
            zones(side);
            ways(side);
            rooms(side);
            reports(side);
            odds(side);
            losses(side);
            retreats(side);
            turns(side);
            undos(side);
            waters(side);
        }
        Check.end();
    }

    /** A game on the turn of a side. */
    private static Played onTurn(Played x, int side) {
        if (side == 1) {
            x.endTurn();
        }
        return x;
    }

    private static void same(int side, String what, Object got, Object due) {
        Check.same("for side " + side + ", " + what, got, due);
    }

    /** "A cell is closed for the supply of a side", and "a unit is supplied if [..]". */
    private static void supply(int side) {
        Played x = Scene.corridor("ppppppppp");
        x.setSource(18, side, true);
        x.add(side, 22, 5, 7);
        same(side, "supplyCost(.., 22)", x.supplyCost(side, 22), 4);
        same(side, "unit(0, 4)", x.unit(0, 4), 7);
        x.set(false, 3);
        same(side, "unit(0, 4) out of the supply range", x.unit(0, 4), 4);
        same(side, "unit(0, 5) out of the supply range", x.unit(0, 5), 3);
        x.set(false, 4);
        x.add(1 - side, 20, 1, 1);
        Check.refused("supplyCost behind a unit", NoSuchElementException.class, () -> x.supplyCost(side, 22));
        same(side, "closed cells", x.cells(side, 3) & 0x1FFL << 18, Scene.set(19, 20, 21));
        x.add(side, 21, 1, 1);
        same(side, "closed cells with a unit in the zone", x.cells(side, 3) & 0x1FFL << 18, Scene.set(19, 20));
        same(side, "closed water", x.cells(side, 3) >>> 27, (1L << 36) - 1);
    }

    /** "A side sees the cells that are seen from the cells of its units." */
    private static void sight(int side) {
        int[] ranges = {4, 2, 3};
        for (int weather = 0; weather <= 2; weather++) {
            Played x = Scene.corridor("ppppppppp");
            x.set(true, weather);
            x.add(side, 18, 5, 5);
            x.add(1 - side, 18 + ranges[weather], 5, 5);
            x.add(1 - side, 19 + ranges[weather], 5, 5);
            same(side, "known(..)", x.known(side), 0b10);
            same(side, "known(..) of the other side", x.known(1 - side), 0b1);
            same(side, "unit(0, 9)", x.unit(0, 9), 1);
            same(side, "unit(1, 9)", x.unit(1, 9), 1);
            same(side, "unit(2, 9)", x.unit(2, 9), 0);
        }
    }

    private static Played hidden(int side, String letters) {
        Played x = onTurn(Scene.corridor(letters), side);
        x.setSource(18, side, true);
        x.set(true, 1);
        x.add(side, 18, 5, 12);
        x.add(1 - side, 23, 5, 12);
        return x;
    }

    /** "If this is in the zone of the other side, by all its units, and not the end of the way, it stops." */
    private static void stops(int side) {
        Played x = hidden(side, "PPPPPPPPP");
        same(side, "move(0, 24)", x.move(0, 24), 22);
        same(side, "count(6)", x.count(6), 0);
        Check.refused("a second move", IllegalStateException.class, () -> x.move(0, 21));
    }

    /** "This is an ambush." */
    private static void ambushes(int side) {
        Played x = hidden(side, "PPPPMPPPP");
        same(side, "move(0, 24)", x.move(0, 24), 22);
        same(side, "count(6)", x.count(6), 1);
        Check.refused("a second move", IllegalStateException.class, () -> x.move(0, 21));
    }

    /** "It cannot make a step from a cell of the known zone to another cell of the known zone, unless [..]". */
    private static void zones(int side) {
        Played x = onTurn(new Played(), side);
        x.add(side, 28, 5, 12);
        x.add(1 - side, 27, 5, 12);
        same(side, "cost(0, 19) around the zone", x.cost(0, 19), 2);
        same(side, "way(0, 19, 1) around the zone", x.way(0, 19, 1), 20);
        x.add(side, 19, 5, 12);
        same(side, "cost(0, 19) to a unit of its own", x.cost(0, 19), 1);
        same(side, "cost(0, 18) not on from there", x.cost(0, 18), 4);
    }

    /** "It can go on from a cell of the known zone, [..] only if that is the cell from which it starts." */
    private static void ways(int side) {
        Played x = onTurn(new Played(), side);
        x.add(side, 38, 5, 12);
        same(side, "way(0, 20, 1)", x.way(0, 20, 1), 28);
        x.add(1 - side, 27, 5, 12);
        same(side, "way(0, 20, 1) beside the zone", x.way(0, 20, 1), 29);
        x.add(side, 28, 5, 12);
        same(side, "way(0, 20, 1) beside a unit of its own", x.way(0, 20, 1), 29);
        same(side, "way(2, 20, 1) out of the zone", x.way(2, 20, 1), 20);
    }

    /** "At most two other units, and the strengths of all of them, with it, are at most 12." */
    private static void rooms(int side) {
        Played x = new Played();
        x.add(side, 31, 5, 5);
        x.add(side, 31, 5, 5);
        Check.refusedUnchanged(x, "a strength of 13", IllegalStateException.class, () -> x.add(side, 31, 3, 5));
        same(side, "add(.., 31, 1, 5)", x.add(side, 31, 1, 5), 2);
        Check.refusedUnchanged(x, "a fourth one", IllegalStateException.class, () -> x.add(side, 31, 1, 5));
        Check.refusedUnchanged(x, "one of the other side", IllegalStateException.class,
                () -> x.add(1 - side, 31, 1, 5));
    }

    /** "For the code 3, and a unit that is not supplied, level 2 has the code 5 and the allowance." */
    private static void reports(int side) {
        Played x = onTurn(Scene.corridor("ppppppppp"), side);
        x.add(side, 18, 5, 5);
        Check.refused("move(0, 22)", UnsupportedOperationException.class, () -> x.move(0, 22));
        same(side, "report(1, 0)", x.report(1, 0), 3);
        same(side, "report(1, 1)", x.report(1, 1), 4);
        same(side, "report(2, 0)", x.report(2, 0), 5);
        same(side, "report(2, 1)", x.report(2, 1), 3);
        x.setSource(18, side, true);
        Check.refused("move(0, 24)", UnsupportedOperationException.class, () -> x.move(0, 24));
        same(side, "report(1, 1) with supply", x.report(1, 1), 6);
        Check.refused("report(2, 0) with supply", NoSuchElementException.class, () -> x.report(2, 0));
    }

    /** The attacker, with supply, on 20 and the defender on 21. */
    private static Played facing(int side, int attack, int defense) {
        Played x = onTurn(new Played(), side);
        x.setSource(20, side, true);
        x.setSource(21, 1 - side, true);
        x.add(side, 20, attack, 5);
        x.add(1 - side, 21, defense, 5);
        return x;
    }

    /** "Minus 1 with rain", "plus 1 in a wood, 2 on a hill, and 3 on a mountain". */
    private static void odds(int side) {
        int[] covers = {0, 1, 2, 0, 3};
        for (int weather = 0; weather <= 2; weather++) {
            for (int terrain = 0; terrain <= 4; terrain++) {
                Played x = facing(side, 5, 4);
                x.set(true, weather);
                x.setTerrain(21, terrain, false);
                same(side, "the attack", x.odds(20, 21, false), weather == 1 ? 4 : 5);
                same(side, "the defense", x.odds(20, 21, true), 4 + covers[terrain]);
                int due = x.odds(20, 21, false) > x.odds(20, 21, true) ? 1 : 0;
                same(side, "attack(20, 21)", x.attack(20, 21), due);
            }
        }
    }

    /** The losses after each result, and where they are accounted. */
    private static void losses(int side) {
        int[][] games = {{4, 4, 0}, {5, 4, 1}, {8, 4, 2}};
        for (int[] game : games) {
            Played x = facing(side, game[0], game[1]);
            int attackerLoss = game[2] == 2 ? 0 : 1;
            int defenderLoss = game[2] == 0 ? 0 : 1;
            same(side, "attack(20, 21)", x.attack(20, 21), game[2]);
            Check.strengths(x, game[0] - attackerLoss, game[1] - defenderLoss);
            same(side, "account(.., 2)", x.account(side, 2), attackerLoss);
            same(side, "account(.., 2) of the other one", x.account(1 - side, 2), defenderLoss);
            Check.refused("a second attack", NoSuchElementException.class, () -> x.attack(20, 21));
            Check.refused("a move after it", IllegalStateException.class, () -> x.move(0, 19));
        }
    }

    /** "Is not in the zone of the other side, by all its units, or has a unit of its own side on it." */
    private static void retreats(int side) {
        Played x = facing(side, 9, 4);
        for (int cell : new int[] {22, 12}) {
            x.setTerrain(cell, 5, false);
        }
        same(side, "attack(20, 21)", x.attack(20, 21), 2);
        same(side, "unit(1, 1)", x.unit(1, 1), 30);
        x.undo();
        x.setTerrain(30, 5, false);
        x.attack(20, 21);
        same(side, "unit(1, 1) where it stays", x.unit(1, 1), 21);
        same(side, "unit(1, 2) where it stays", x.unit(1, 2), 1);
        x.undo();
        x.add(1 - side, 29, 1, 1);
        x.attack(20, 21);
        same(side, "unit(1, 1) with its own side", x.unit(1, 1), 29);
    }

    /** "Each of its units that is not supplied then loses 1 of its strength." */
    private static void turns(int side) {
        Played x = onTurn(new Played(), side);
        x.setSource(0, side, true);
        x.add(side, 0, 5, 5);
        x.add(side, 62, 5, 5);
        x.add(1 - side, 31, 5, 5);
        x.add(side, 8, 1, 5);
        x.set(false, 1);
        same(side, "endTurn()", x.endTurn(), 1);
        Check.strengths(x, 5, 4, 5, 0);
        same(side, "account(.., 3)", x.account(side, 3), 2);
        same(side, "account(.., 5)", x.account(side, 5), 1);
        same(side, "account(.., 3) of the other one", x.account(1 - side, 3), 0);
        same(side, "count(2)", x.count(2), 1 - side);
        same(side, "count(1)", x.count(1), side);
    }

    /** "A successful call of [..] move, attack, endTurn". */
    private static void undos(int side) {
        Played x = facing(side, 5, 4);
        x.move(0, 11);
        same(side, "undo() of a move", x.undo(), side + 4);
        same(side, "unit(0, 1)", x.unit(0, 1), 20);
        same(side, "unit(0, 7)", x.unit(0, 7), 1);
        x.attack(20, 21);
        same(side, "undo() of an attack", x.undo(), side + 4);
        Check.strengths(x, 5, 4);
        x.endTurn();
        same(side, "undo() of endTurn", x.undo(), side + 4);
        same(side, "count(2)", x.count(2), side);
    }

    /** "If it is water, and a unit is on the cell", "if a cell with a unit would become water". */
    private static void waters(int side) {
        Played x = new Played();
        x.add(side, 1, 5, 5);
        Check.refusedUnchanged(x, "setTerrain(1, 5, false)", IllegalStateException.class,
                () -> x.setTerrain(1, 5, false));
        Scene.feed(x, "w~");
        Check.refused("readMap()", IllegalStateException.class, x::readMap);
        same(side, "cell(0, 0)", x.cell(0, 0), 0);
    }
}
