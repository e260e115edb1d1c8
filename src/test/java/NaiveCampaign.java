import java.util.ArrayDeque;
import java.util.ArrayList;
import java.util.Arrays;
import java.util.Deque;
import java.util.List;
import java.util.NoSuchElementException;

/**
 * The document once more, in the slowest and plainest way: lists, and ways that are tried out.
 * RandomRunsTest holds it against HexCampaign.
 */
public final class NaiveCampaign {
    private static final int[][] PRICES = {{1, 2, 2, 3, 4}, {2, 3, 3, 5, 5}, {2, 3, 3, 2, 6}};
    private static final int[] HEIGHTS = {0, 1, 2, 0, 3, 0};
    private static final int[] SIGHT = {4, 2, 3};
    private static final String LETTERS = "pwhsm~PWHSM";

    private static final class Soldier {
        int side;
        int cell;
        int strength;
        int movement;
        boolean isGone;
        boolean hasMoved;
        boolean hasAttacked;

        Soldier twin() {
            Soldier s = new Soldier();
            s.side = side;
            s.cell = cell;
            s.strength = strength;
            s.movement = movement;
            s.isGone = isGone;
            s.hasMoved = hasMoved;
            s.hasAttacked = hasAttacked;
            return s;
        }
    }

    private static final class World {
        int[] terrain = new int[63];
        boolean[] road = new boolean[63];
        boolean[][] source = new boolean[2][63];
        List<Soldier> soldiers = new ArrayList<>();
        int[][] accounts = new int[2][6];
        int weather;
        int range = 10;
        int side;
        int round;
        int ambushes;
        int attacks;
        int z;

        World twin() {
            World w = new World();
            w.terrain = terrain.clone();
            w.road = road.clone();
            w.source = new boolean[][] {source[0].clone(), source[1].clone()};
            for (Soldier s : soldiers) {
                w.soldiers.add(s.twin());
            }
            w.accounts = new int[][] {accounts[0].clone(), accounts[1].clone()};
            w.weather = weather;
            w.range = range;
            w.side = side;
            w.round = round;
            w.ambushes = ambushes;
            w.attacks = attacks;
            w.z = z;
            return w;
        }
    }

    private World world = new World();
    private World stored;
    private final Deque<World> past = new ArrayDeque<>();
    private List<int[]> levels = new ArrayList<>();
    private String buffer = "";

    private void remember() {
        past.addLast(world.twin());
        if (past.size() > 8) {
            past.removeFirst();
        }
    }

    // ---- the map

    private static int[] rowAndColumn(int cell, int direction) {
        int row = cell / 9;
        int column = cell % 9;
        boolean isEven = row % 2 == 0;
        switch (direction) {
            case 0: return new int[] {row, column + 1};
            case 1: return new int[] {row - 1, isEven ? column : column + 1};
            case 2: return new int[] {row - 1, isEven ? column - 1 : column};
            case 3: return new int[] {row, column - 1};
            case 4: return new int[] {row + 1, isEven ? column - 1 : column};
            default: return new int[] {row + 1, isEven ? column : column + 1};
        }
    }

    private static List<Integer> neighbors(int cell) {
        List<Integer> found = new ArrayList<>();
        for (int d = 0; d < 6; d++) {
            int[] rc = rowAndColumn(cell, d);
            if (rc[0] >= 0 && rc[0] < 7 && rc[1] >= 0 && rc[1] < 9) {
                found.add(9 * rc[0] + rc[1]);
            }
        }
        return found;
    }

    private static int[] distances(int from) {
        int[] steps = new int[63];
        Arrays.fill(steps, -1);
        steps[from] = 0;
        Deque<Integer> open = new ArrayDeque<>(List.of(from));
        while (!open.isEmpty()) {
            int cell = open.removeFirst();
            for (int n : neighbors(cell)) {
                if (steps[n] < 0) {
                    steps[n] = steps[cell] + 1;
                    open.addLast(n);
                }
            }
        }
        return steps;
    }

    private int stepCost(int from, int to) {
        if (world.road[from] && world.road[to]) {
            return 1;
        }
        return PRICES[world.weather][world.terrain[to]];
    }

    // ---- units

    private boolean exists(int unit) {
        return unit >= 0 && unit < world.soldiers.size() && !world.soldiers.get(unit).isGone;
    }

    private List<Integer> on(int cell, int side) {
        List<Integer> found = new ArrayList<>();
        for (int u = 0; u < world.soldiers.size(); u++) {
            Soldier s = world.soldiers.get(u);
            if (!s.isGone && s.cell == cell && (side < 0 || s.side == side)) {
                found.add(u);
            }
        }
        return found;
    }

    private List<Integer> of(int side) {
        List<Integer> found = new ArrayList<>();
        for (int cell = 0; cell < 63; cell++) {
            found.addAll(on(cell, side));
        }
        found.sort(null);
        return found;
    }

    private int strengthOf(List<Integer> units) {
        int sum = 0;
        for (int u : units) {
            sum += world.soldiers.get(u).strength;
        }
        return sum;
    }

    private boolean isRoom(int cell, int side, int strength, List<Integer> others) {
        int sum = strength;
        int friends = 0;
        for (int u : others) {
            Soldier s = world.soldiers.get(u);
            if (s.isGone || s.cell != cell) {
                continue;
            }
            if (s.side != side) {
                return false;
            }
            friends++;
            sum += s.strength;
        }
        return friends <= 2 && sum <= 12;
    }

    private boolean isRoomFor(int unit, int cell, List<Integer> others) {
        List<Integer> rest = new ArrayList<>(others);
        rest.remove(Integer.valueOf(unit));
        Soldier s = world.soldiers.get(unit);
        return isRoom(cell, s.side, s.strength, rest);
    }

    private List<Integer> everybody() {
        List<Integer> found = of(0);
        found.addAll(of(1));
        return found;
    }

    private boolean[] zone(List<Integer> units) {
        boolean[] found = new boolean[63];
        for (int u : units) {
            for (int n : neighbors(world.soldiers.get(u).cell)) {
                found[n] = world.terrain[n] != 4 && world.terrain[n] != 5;
            }
        }
        return found;
    }

    private void weaken(int unit, int loss, int account) {
        Soldier s = world.soldiers.get(unit);
        int lost = Math.min(loss, s.strength);
        s.strength -= lost;
        world.accounts[s.side][account] += lost;
        if (s.strength == 0) {
            s.isGone = true;
            world.accounts[s.side][5]++;
        }
    }

    // ---- sight

    private boolean sees(int from, int to) {
        int steps = distances(from)[to];
        if (steps == 0) {
            return true;
        }
        int height = Math.max(HEIGHTS[world.terrain[from]], HEIGHTS[world.terrain[to]]);
        return steps <= SIGHT[world.weather] && leads(from, to, steps, height);
    }

    private boolean leads(int from, int to, int steps, int height) {
        for (int n : neighbors(from)) {
            if (steps == 1 && n == to) {
                return true;
            }
            if (steps > 1 && HEIGHTS[world.terrain[n]] <= height && leads(n, to, steps - 1, height)) {
                return true;
            }
        }
        return false;
    }

    private boolean seesAsSide(int side, int cell) {
        for (int u : of(side)) {
            if (sees(world.soldiers.get(u).cell, cell)) {
                return true;
            }
        }
        return false;
    }

    private List<Integer> knownUnits(int side) {
        List<Integer> found = new ArrayList<>();
        for (int u : of(1 - side)) {
            if (seesAsSide(side, world.soldiers.get(u).cell)) {
                found.add(u);
            }
        }
        return found;
    }

    // ---- supply

    private boolean isClosed(int side, int cell) {
        return world.terrain[cell] == 5
                || !on(cell, 1 - side).isEmpty()
                || (zone(of(1 - side))[cell] && on(cell, side).isEmpty());
    }

    private int[] supplyCosts(int side) {
        int[] costs = new int[63];
        boolean[] closed = new boolean[63];
        for (int c = 0; c < 63; c++) {
            closed[c] = isClosed(side, c);
            costs[c] = world.source[side][c] && !closed[c] ? 0 : 9999;
        }
        boolean isBetter = true;
        while (isBetter) {
            isBetter = false;
            for (int c = 0; c < 63; c++) {
                for (int n : neighbors(c)) {
                    if (costs[c] < 9999 && !closed[n] && costs[c] + stepCost(c, n) < costs[n]) {
                        costs[n] = costs[c] + stepCost(c, n);
                        isBetter = true;
                    }
                }
            }
        }
        return costs;
    }

    private boolean isSupplied(int unit) {
        Soldier s = world.soldiers.get(unit);
        return supplyCosts(s.side)[s.cell] <= world.range;
    }

    private int force(int unit) {
        int strength = world.soldiers.get(unit).strength;
        return isSupplied(unit) ? strength : strength - strength / 2;
    }

    private int forces(List<Integer> units) {
        int sum = 0;
        for (int u : units) {
            sum += force(u);
        }
        return sum;
    }

    private int allowance(int unit) {
        int movement = world.soldiers.get(unit).movement;
        return isSupplied(unit) ? movement : movement - movement / 2;
    }

    // ---- ways

    private static boolean isLess(List<Integer> one, List<Integer> other) {
        for (int i = 0; i < one.size() && i < other.size(); i++) {
            if (!one.get(i).equals(other.get(i))) {
                return one.get(i) < other.get(i);
            }
        }
        return one.size() < other.size();
    }

    private int costOf(List<Integer> way) {
        int sum = 0;
        for (int i = 1; i < way.size(); i++) {
            sum += stepCost(way.get(i - 1), way.get(i));
        }
        return sum;
    }

    private List<List<Integer>> ways(int unit) {
        Soldier s = world.soldiers.get(unit);
        List<Integer> known = knownUnits(s.side);
        boolean[] zone = zone(known);
        boolean[] hostile = new boolean[63];
        for (int u : known) {
            hostile[world.soldiers.get(u).cell] = true;
        }
        List<List<Integer>> best = new ArrayList<>();
        for (int c = 0; c < 63; c++) {
            best.add(c == s.cell ? List.of(c) : null);
        }
        boolean isBetter = true;
        while (isBetter) {
            isBetter = false;
            for (int c = 0; c < 63; c++) {
                if (best.get(c) == null || (zone[c] && c != s.cell)) {
                    continue;
                }
                for (int n : neighbors(c)) {
                    boolean isBarred = zone[c] && zone[n] && on(n, s.side).isEmpty();
                    if (world.terrain[n] == 5 || hostile[n] || isBarred || n == s.cell) {
                        continue;
                    }
                    List<Integer> way = new ArrayList<>(best.get(c));
                    way.add(n);
                    List<Integer> old = best.get(n);
                    int less = old == null ? -1 : costOf(way) - costOf(old);
                    if (less < 0 || (less == 0 && isLess(way, old))) {
                        best.set(n, way);
                        isBetter = true;
                    }
                }
            }
        }
        best.set(s.cell, null);
        return best;
    }

    private boolean canReach(int unit, int cell, List<List<Integer>> ways) {
        List<Integer> seen = of(world.soldiers.get(unit).side);
        seen.addAll(knownUnits(world.soldiers.get(unit).side));
        return ways.get(cell) != null && costOf(ways.get(cell)) <= allowance(unit)
                && isRoomFor(unit, cell, seen);
    }

    // ---- the face

    public int start(int seed) {
        int before = everybody().size();
        world = new World();
        world.z = seed;
        past.clear();
        return before;
    }

    private static void need(boolean isCell) {
        if (!isCell) {
            throw new IndexOutOfBoundsException();
        }
    }

    private static void needValue(boolean isValue) {
        if (!isValue) {
            throw new IllegalArgumentException();
        }
    }

    private static void needState(boolean isState) {
        if (!isState) {
            throw new IllegalStateException();
        }
    }

    private static void needElement(boolean isElement) {
        if (!isElement) {
            throw new NoSuchElementException();
        }
    }

    private static boolean isCell(int cell) {
        return cell >= 0 && cell <= 62;
    }

    private static boolean isSide(int side) {
        return side == 0 || side == 1;
    }

    public int setTerrain(int cell, int terrain, boolean hasRoad) {
        need(isCell(cell));
        needValue(terrain >= 0 && terrain <= 5 && !(terrain == 5 && hasRoad));
        needState(terrain != 5 || on(cell, -1).isEmpty());
        remember();
        int before = world.terrain[cell];
        world.terrain[cell] = terrain;
        world.road[cell] = hasRoad;
        return before;
    }

    public boolean setSource(int cell, int side, boolean isSource) {
        need(isCell(cell) && isSide(side));
        remember();
        boolean before = world.source[side][cell];
        world.source[side][cell] = isSource;
        return before;
    }

    public int set(boolean isWeather, int value) {
        needValue(isWeather ? value >= 0 && value <= 2 : value >= 1 && value <= 30);
        remember();
        int before = isWeather ? world.weather : world.range;
        if (isWeather) {
            world.weather = value;
        } else {
            world.range = value;
        }
        return before;
    }

    private static int asSet(List<Integer> units) {
        int found = 0;
        for (int u : units) {
            found |= 1 << u;
        }
        return found;
    }

    public int cell(int cell, int what) {
        need(isCell(cell));
        needValue(what >= 0 && what <= 4);
        int[] numbers = {world.terrain[cell], world.road[cell] ? 1 : 0,
            (world.source[0][cell] ? 1 : 0) + (world.source[1][cell] ? 2 : 0),
            asSet(on(cell, -1)), strengthOf(on(cell, -1))};
        return numbers[what];
    }

    public int neighbor(int cell, int direction) {
        need(isCell(cell) && direction >= 0 && direction <= 5);
        int[] rc = rowAndColumn(cell, direction);
        needElement(rc[0] >= 0 && rc[0] < 7 && rc[1] >= 0 && rc[1] < 9);
        return 9 * rc[0] + rc[1];
    }

    public int distance(int one, int other) {
        need(isCell(one) && isCell(other));
        return distances(one)[other];
    }

    public int count(int what) {
        needValue(what >= 0 && what <= 7);
        int[] numbers = {everybody().size(), world.round, world.side, world.weather, world.range,
            SIGHT[world.weather], world.ambushes, world.attacks};
        return numbers[what];
    }

    public int add(int side, int cell, int strength, int movement) {
        need(isSide(side) && isCell(cell));
        needValue(strength >= 1 && strength <= 9 && movement >= 1 && movement <= 12);
        needState(world.soldiers.size() < 16 && world.terrain[cell] != 5
                && isRoom(cell, side, strength, everybody()));
        remember();
        Soldier s = new Soldier();
        s.side = side;
        s.cell = cell;
        s.strength = strength;
        s.movement = movement;
        world.soldiers.add(s);
        world.accounts[side][0] += strength;
        return world.soldiers.size() - 1;
    }

    public int unit(int unit, int what) {
        need(exists(unit));
        needValue(what >= 0 && what <= 9);
        Soldier s = world.soldiers.get(unit);
        boolean isTurn = s.side == world.side;
        switch (what) {
            case 0: return s.side;
            case 1: return s.cell;
            case 2: return s.strength;
            case 3: return s.movement;
            case 4: return allowance(unit);
            case 5: return force(unit);
            case 6: return isSupplied(unit) ? 1 : 0;
            case 7: return isTurn && !s.hasMoved && !s.hasAttacked ? 1 : 0;
            case 8: return isTurn && !s.hasAttacked ? 1 : 0;
            default: return seesAsSide(1 - s.side, s.cell) ? 1 : 0;
        }
    }

    public int known(int side) {
        need(isSide(side));
        return asSet(knownUnits(side));
    }

    public long cells(int side, int what) {
        need(isSide(side));
        needValue(what >= 0 && what <= 4);
        boolean[] zone = zone(of(side));
        int[] costs = supplyCosts(side);
        long found = 0;
        for (int c = 0; c < 63; c++) {
            boolean isIn;
            switch (what) {
                case 0: isIn = zone[c]; break;
                case 1: isIn = seesAsSide(side, c); break;
                case 2: isIn = world.source[side][c]; break;
                case 3: isIn = isClosed(side, c); break;
                default: isIn = costs[c] <= world.range; break;
            }
            found |= isIn ? 1L << c : 0;
        }
        return found;
    }

    public boolean isSeen(int from, int cell) {
        need(isCell(from) && isCell(cell));
        return sees(from, cell);
    }

    public int supplyCost(int side, int cell) {
        need(isSide(side) && isCell(cell));
        int cost = supplyCosts(side)[cell];
        needElement(cost < 9999);
        return cost;
    }

    public long reach(int unit) {
        need(exists(unit));
        List<List<Integer>> ways = ways(unit);
        long found = 0;
        for (int c = 0; c < 63; c++) {
            found |= canReach(unit, c, ways) ? 1L << c : 0;
        }
        return found;
    }

    public int cost(int unit, int cell) {
        need(exists(unit) && isCell(cell));
        List<Integer> way = ways(unit).get(cell);
        needElement(way != null);
        return costOf(way);
    }

    public int way(int unit, int cell, int i) {
        need(exists(unit) && isCell(cell));
        List<Integer> way = ways(unit).get(cell);
        needElement(way != null && i >= 0 && i < way.size());
        return way.get(i);
    }

    public int move(int unit, int cell) {
        need(exists(unit) && isCell(cell));
        Soldier s = world.soldiers.get(unit);
        needValue(s.cell != cell);
        needState(s.side == world.side && !s.hasMoved && !s.hasAttacked);
        List<List<Integer>> ways = ways(unit);
        List<Integer> way = ways.get(cell);
        if (!canReach(unit, cell, ways)) {
            levels = new ArrayList<>();
            levels.add(new int[] {1, unit});
            if (way == null) {
                levels.add(new int[] {2, cell});
            } else if (costOf(way) > allowance(unit)) {
                levels.add(new int[] {3, costOf(way)});
                if (!isSupplied(unit)) {
                    levels.add(new int[] {5, allowance(unit)});
                }
            } else {
                levels.add(new int[] {4, on(cell, s.side).size()});
            }
            throw new UnsupportedOperationException();
        }
        remember();
        int at = 0;
        while (at < way.size() - 1) {
            int next = way.get(at + 1);
            if (!on(next, 1 - s.side).isEmpty()) {
                world.ambushes++;
                break;
            }
            at++;
            if (zone(of(1 - s.side))[next]) {
                break;
            }
        }
        while (!isRoomFor(unit, way.get(at), everybody())) {
            at--;
        }
        s.cell = way.get(at);
        s.hasMoved = true;
        return s.cell;
    }

    private List<Integer> attackers(int from) {
        List<Integer> found = on(from, world.side);
        found.removeIf(u -> world.soldiers.get(u).hasAttacked);
        return found;
    }

    private void needAttack(int from, int to) {
        need(isCell(from) && isCell(to));
        needValue(neighbors(from).contains(to));
        needElement(!attackers(from).isEmpty() && !on(to, 1 - world.side).isEmpty());
    }

    public int odds(int from, int to, boolean isDefense) {
        needAttack(from, to);
        int[] bonus = {0, 1, 2, 0, 3, 0};
        return isDefense
                ? forces(on(to, 1 - world.side)) + bonus[world.terrain[to]]
                : forces(attackers(from)) - (world.weather == 1 ? 1 : 0);
    }

    public int attack(int from, int to) {
        needAttack(from, to);
        int attack = odds(from, to, false);
        int defense = odds(from, to, true);
        remember();
        List<Integer> attackers = attackers(from);
        List<Integer> defenders = on(to, 1 - world.side);
        world.attacks++;
        for (int u : attackers) {
            world.soldiers.get(u).hasAttacked = true;
        }
        if (attack >= 2 * defense) {
            for (int u : defenders) {
                weaken(u, 1, 2);
            }
            for (int u : defenders) {
                if (exists(u)) {
                    retreat(u, from);
                }
            }
            return 2;
        }
        if (attack > defense) {
            weaken(attackers.get(0), 1, 2);
            weaken(defenders.get(0), 1, 2);
            return 1;
        }
        for (int u : attackers) {
            weaken(u, 1, 2);
        }
        return 0;
    }

    private void retreat(int unit, int from) {
        Soldier s = world.soldiers.get(unit);
        boolean[] zone = zone(of(1 - s.side));
        List<Integer> open = new ArrayList<>();
        for (int n : neighbors(s.cell)) {
            if (world.terrain[n] != 5 && isRoomFor(unit, n, everybody())
                    && (!zone[n] || !on(n, s.side).isEmpty())) {
                open.add(n);
            }
        }
        if (open.isEmpty()) {
            weaken(unit, 2, 2);
            return;
        }
        int place = s.cell;
        open.sort((a, b) -> {
            int farther = distances(from)[b] - distances(from)[a];
            int dearer = stepCost(place, a) - stepCost(place, b);
            return farther != 0 ? farther : dearer != 0 ? dearer : a - b;
        });
        s.cell = open.get(0);
    }

    public int endTurn() {
        remember();
        int before = everybody().size();
        List<Integer> hungry = of(world.side);
        hungry.removeIf(this::isSupplied);
        for (int u : hungry) {
            weaken(u, 1, 3);
        }
        for (Soldier s : world.soldiers) {
            s.hasMoved = false;
            s.hasAttacked = false;
        }
        world.side = 1 - world.side;
        if (world.side == 0) {
            world.round++;
            world.z = world.z * 1103515245 + 12345;
            world.weather = new int[] {0, 0, 0, 1, 1, 2}[(world.z >>> 16) % 6];
        }
        return before - everybody().size();
    }

    public int account(int side, int what) {
        need(isSide(side));
        needValue(what >= 0 && what <= 5);
        if (what == 1) {
            return strengthOf(of(side));
        }
        return what == 4 ? of(side).size() : world.accounts[side][what];
    }

    public double balance() {
        if (of(1).isEmpty()) {
            throw new ArithmeticException();
        }
        return (double) forces(of(0)) / (double) forces(of(1));
    }

    public int report(int level, int what) {
        needElement(level >= 0 && level < levels.size());
        needValue(what == 0 || what == 1);
        return levels.get(level)[what];
    }

    public int feed(char letter) {
        needState(buffer.length() < 80);
        buffer += letter;
        return buffer.length();
    }

    public int readMap() {
        String text = buffer;
        buffer = "";
        List<Integer> kinds = new ArrayList<>();
        for (int i = 0; i < text.length(); i++) {
            boolean isEnd = kinds.size() % 9 == 0 && i % 10 == 9;
            int kind = LETTERS.indexOf(text.charAt(i));
            if (kinds.size() == 63 || (isEnd ? text.charAt(i) != '/' : kind < 0)) {
                return -100 - i;
            }
            if (!isEnd) {
                kinds.add(kind);
            }
        }
        for (int c = 0; c < kinds.size(); c++) {
            needState(kinds.get(c) != 5 || on(c, -1).isEmpty());
        }
        remember();
        for (int c = 0; c < kinds.size(); c++) {
            world.terrain[c] = kinds.get(c) % 6;
            world.road[c] = kinds.get(c) >= 6;
        }
        return kinds.size();
    }

    public char text(int i) {
        StringBuilder whole = new StringBuilder();
        for (int c = 0; c < 63; c++) {
            whole.append(c > 0 && c % 9 == 0 ? "/" : "");
            whole.append(LETTERS.charAt(world.terrain[c] + (world.road[c] ? 6 : 0)));
        }
        need(i >= 0 && i < whole.length());
        return whole.charAt(i);
    }

    public int undo() {
        needState(!past.isEmpty());
        world = past.removeLast();
        return past.size();
    }

    public int save() {
        stored = world.twin();
        return everybody().size();
    }

    public int restore() {
        needState(stored != null);
        world = stored.twin();
        past.clear();
        return everybody().size();
    }
}
