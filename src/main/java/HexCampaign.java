import java.util.NoSuchElementException;

/**
 * A game map of hexagons for two sides. The document ../shared/DOC.md says, promise by promise,
 * what each public method does; the classes inside hold the rules behind them.
 */
public final class HexCampaign {
    private static final int CELLS = 63;
    private static final int COLUMNS = 9;
    private static final int ROWS = 7;
    private static final int DIRECTIONS = 6;
    private static final int SIDES = 2;
    private static final int TERRAINS = 6;
    private static final int MOUNTAIN = 4;
    private static final int WATER = 5;
    private static final int WEATHERS = 3;
    private static final int RAIN = 1;
    private static final int SNOW = 2;
    private static final int MOST_UNITS = 16;
    private static final int MOST_STRENGTH = 9;
    private static final int MOST_MOVEMENT = 12;
    private static final int MOST_SUPPLY_RANGE = 30;
    private static final int NONE = -1;

    private final Play play;
    private final Game game;
    private final Game saved;
    private boolean hasSaved;
    private final History history;
    private final Report lastReport;
    private final MapInput input;

    public HexCampaign() {
        play = new Play();
        game = play.game;
        saved = new Game();
        hasSaved = false;
        history = new History();
        lastReport = new Report();
        input = new MapInput();
        game.begin(0);
    }

    public int start(int seed) {
        int before = game.units.howMany();
        game.begin(seed);
        history.forget();
        return before;
    }

    public int setTerrain(int cell, int terrain, boolean hasRoad)
            throws IndexOutOfBoundsException, IllegalArgumentException, IllegalStateException {
        checkCell(cell);
        if (terrain < 0 || terrain >= TERRAINS || (terrain == WATER && hasRoad)) {
            throw new IllegalArgumentException();
        }
        if (terrain == WATER && game.units.on(cell) != 0) {
            throw new IllegalStateException();
        }
        int before = game.land.terrainAt(cell);
        history.keep(game);
        game.land.shape(cell, terrain, hasRoad);
        return before;
    }

    public boolean setSource(int cell, int side, boolean isSource) throws IndexOutOfBoundsException {
        checkCell(cell);
        checkSide(side);
        boolean before = Hexes.has(game.land.sourcesOf(side), cell);
        history.keep(game);
        game.land.markSource(cell, side, isSource);
        return before;
    }

    public int set(boolean isWeather, int value) throws IllegalArgumentException {
        boolean isInRange = isWeather
                ? value >= 0 && value < WEATHERS
                : value >= 1 && value <= MOST_SUPPLY_RANGE;
        if (!isInRange) {
            throw new IllegalArgumentException();
        }
        int before = isWeather ? game.weather : game.supplyRange;
        history.keep(game);
        if (isWeather) {
            game.weather = value;
        } else {
            game.supplyRange = value;
        }
        return before;
    }

    public int cell(int cell, int what) throws IndexOutOfBoundsException, IllegalArgumentException {
        checkCell(cell);
        switch (what) {
            case 0:
                return game.land.terrainAt(cell);
            case 1:
                return oneIf(Hexes.has(game.land.roads(), cell));
            case 2:
                return oneIf(Hexes.has(game.land.sourcesOf(0), cell))
                        + 2 * oneIf(Hexes.has(game.land.sourcesOf(1), cell));
            case 3:
                return game.units.on(cell);
            case 4:
                return game.units.strengthsOf(game.units.on(cell));
            default:
                throw new IllegalArgumentException();
        }
    }

    public int neighbor(int cell, int direction) throws IndexOutOfBoundsException, NoSuchElementException {
        checkCell(cell);
        if (direction < 0 || direction >= DIRECTIONS) {
            throw new IndexOutOfBoundsException();
        }
        int found = Hexes.beside(cell, direction);
        if (found == NONE) {
            throw new NoSuchElementException();
        }
        return found;
    }

    public int distance(int one, int other) throws IndexOutOfBoundsException {
        checkCell(one);
        checkCell(other);
        return Hexes.apart(one, other);
    }

    public int count(int what) throws IllegalArgumentException {
        switch (what) {
            case 0:
                return game.units.howMany();
            case 1:
                return game.round;
            case 2:
                return game.turn;
            case 3:
                return game.weather;
            case 4:
                return game.supplyRange;
            case 5:
                return game.sightRange();
            case 6:
                return game.ambushes;
            case 7:
                return game.attacks;
            default:
                throw new IllegalArgumentException();
        }
    }

    public int add(int side, int cell, int strength, int movement)
            throws IndexOutOfBoundsException, IllegalArgumentException, IllegalStateException {
        checkSide(side);
        checkCell(cell);
        if (strength < 1 || strength > MOST_STRENGTH || movement < 1 || movement > MOST_MOVEMENT) {
            throw new IllegalArgumentException();
        }
        if (game.units.isFull() || game.land.terrainAt(cell) == WATER
                || !game.units.isRoomAt(cell, side, strength, game.units.all())) {
            throw new IllegalStateException();
        }
        history.keep(game);
        return game.units.enlist(side, cell, strength, movement);
    }

    public int unit(int unit, int what) throws IndexOutOfBoundsException, IllegalArgumentException {
        checkUnit(unit);
        int side = game.units.sideOf(unit);
        switch (what) {
            case 0:
                return side;
            case 1:
                return game.units.placeOf(unit);
            case 2:
                return game.units.strengthOf(unit);
            case 3:
                return game.units.movementOf(unit);
            case 4:
                return play.allowanceOf(unit);
            case 5:
                return game.units.forceOf(unit, play.isSupplied(unit));
            case 6:
                return oneIf(play.isSupplied(unit));
            case 7:
                return oneIf(game.canMove(unit));
            case 8:
                return oneIf(game.canAttack(unit));
            case 9:
                return oneIf(Hexes.has(game.seenBy(1 - side), game.units.placeOf(unit)));
            default:
                throw new IllegalArgumentException();
        }
    }

    public int known(int side) throws IndexOutOfBoundsException {
        checkSide(side);
        return game.knownTo(side);
    }

    public long cells(int side, int what) throws IndexOutOfBoundsException, IllegalArgumentException {
        checkSide(side);
        switch (what) {
            case 0:
                return game.zoneOf(side);
            case 1:
                return game.seenBy(side);
            case 2:
                return game.land.sourcesOf(side);
            case 3:
                return game.closedFor(side);
            case 4:
                return play.suppliedCells(side);
            default:
                throw new IllegalArgumentException();
        }
    }

    public boolean isSeen(int from, int cell) throws IndexOutOfBoundsException {
        checkCell(from);
        checkCell(cell);
        return Hexes.has(game.land.seenFrom(from, game.sightRange()), cell);
    }

    public int supplyCost(int side, int cell) throws IndexOutOfBoundsException, NoSuchElementException {
        checkSide(side);
        checkCell(cell);
        int found = play.supplyCostAt(side, cell);
        if (found == NONE) {
            throw new NoSuchElementException();
        }
        return found;
    }

    public long reach(int unit) throws IndexOutOfBoundsException {
        checkUnit(unit);
        return play.reachOf(unit, play.allowanceOf(unit));
    }

    public int cost(int unit, int cell) throws IndexOutOfBoundsException, NoSuchElementException {
        checkUnit(unit);
        checkCell(cell);
        int found = play.findWay(unit, cell);
        if (found == NONE) {
            throw new NoSuchElementException();
        }
        return found;
    }

    public int way(int unit, int cell, int i) throws IndexOutOfBoundsException, NoSuchElementException {
        checkUnit(unit);
        checkCell(cell);
        int found = play.findWay(unit, cell) == NONE ? NONE : play.wayAt(i);
        if (found == NONE) {
            throw new NoSuchElementException();
        }
        return found;
    }

    public int move(int unit, int cell)
            throws IndexOutOfBoundsException, IllegalArgumentException, IllegalStateException,
            UnsupportedOperationException {
        checkUnit(unit);
        checkCell(cell);
        if (game.units.placeOf(unit) == cell) {
            throw new IllegalArgumentException();
        }
        if (!game.canMove(unit)) {
            throw new IllegalStateException();
        }
        boolean isSupplied = play.isSupplied(unit);
        int allowance = game.units.allowanceOf(unit, isSupplied);
        int least = play.findWay(unit, cell);
        if (least == NONE || least > allowance || !play.isRoomInSight(unit, cell)) {
            lastReport.begin(unit);
            explainRefusal(cell, least, allowance, isSupplied);
            throw new UnsupportedOperationException();
        }
        history.keep(game);
        play.march(unit);
        return game.units.placeOf(unit);
    }

    public int odds(int from, int to, boolean isDefense)
            throws IndexOutOfBoundsException, IllegalArgumentException, NoSuchElementException {
        checkAttack(from, to);
        return isDefense ? play.defenseAt(to) : play.attackFrom(from);
    }

    public int attack(int from, int to)
            throws IndexOutOfBoundsException, IllegalArgumentException, NoSuchElementException {
        checkAttack(from, to);
        history.keep(game);
        return play.fight(from, to);
    }

    public int endTurn() {
        history.keep(game);
        return play.finishTurn();
    }

    public int account(int side, int what) throws IndexOutOfBoundsException, IllegalArgumentException {
        checkSide(side);
        int own = game.units.ownedBy(side);
        switch (what) {
            case 0:
                return game.units.addedBy(side);
            case 1:
                return game.units.strengthsOf(own);
            case 2:
                return game.units.lostInAttacksBy(side);
            case 3:
                return game.units.lostUnsuppliedBy(side);
            case 4:
                return Integer.bitCount(own);
            case 5:
                return game.units.removedFrom(side);
            default:
                throw new IllegalArgumentException();
        }
    }

    public double balance() throws ArithmeticException {
        double first = play.forcesOf(0);
        double second = play.forcesOf(1);
        if (second <= 0.0) {
            throw new ArithmeticException();
        }
        return first / second;
    }

    public int report(int level, int what) throws NoSuchElementException, IllegalArgumentException {
        if (level < 0 || level >= lastReport.levels()) {
            throw new NoSuchElementException();
        }
        switch (what) {
            case 0:
                return lastReport.codeOf(level);
            case 1:
                return lastReport.detailOf(level);
            default:
                throw new IllegalArgumentException();
        }
    }

    public int feed(char letter) throws IllegalStateException {
        if (input.isFull()) {
            throw new IllegalStateException();
        }
        return input.append(letter);
    }

    public int readMap() throws IllegalStateException {
        int error = input.errorPosition();
        int found = input.letters();
        boolean isFlood = error == NONE && (input.waters() & game.units.placesOf(game.units.all())) != 0;
        if (error == NONE && !isFlood) {
            history.keep(game);
            input.shapeAll(game.land);
        }
        input.clear();
        if (isFlood) {
            throw new IllegalStateException();
        }
        return error == NONE ? found : -100 - error;
    }

    public char text(int i) throws IndexOutOfBoundsException {
        if (i < 0 || i >= Letters.MAP_LENGTH) {
            throw new IndexOutOfBoundsException();
        }
        int cell = Letters.cellAt(i);
        if (cell == NONE) {
            return Letters.SEPARATOR;
        }
        return Letters.letterOf(game.land.terrainAt(cell), Hexes.has(game.land.roads(), cell));
    }

    public int undo() throws IllegalStateException {
        if (history.held() == 0) {
            throw new IllegalStateException();
        }
        history.takeBack(game);
        return history.held();
    }

    public int save() {
        saved.copyFrom(game);
        hasSaved = true;
        return game.units.howMany();
    }

    public int restore() throws IllegalStateException {
        if (!hasSaved) {
            throw new IllegalStateException();
        }
        game.copyFrom(saved);
        history.forget();
        return game.units.howMany();
    }

    private static int oneIf(boolean condition) {
        return condition ? 1 : 0;
    }

    private static void checkCell(int cell) {
        if (cell < 0 || cell >= CELLS) {
            throw new IndexOutOfBoundsException();
        }
    }

    private static void checkSide(int side) {
        if (side < 0 || side >= SIDES) {
            throw new IndexOutOfBoundsException();
        }
    }

    private void checkUnit(int unit) {
        if (!game.units.exists(unit)) {
            throw new IndexOutOfBoundsException();
        }
    }

    private void checkAttack(int from, int to) {
        checkCell(from);
        checkCell(to);
        if (Hexes.apart(from, to) != 1) {
            throw new IllegalArgumentException();
        }
        if (game.attackersOn(from) == 0 || game.defendersOn(to) == 0) {
            throw new NoSuchElementException();
        }
    }

    private void explainRefusal(int cell, int least, int allowance, boolean isSupplied) {
        if (least == NONE) {
            lastReport.append(2, cell);
        } else if (least > allowance) {
            lastReport.append(3, least);
            if (!isSupplied) {
                lastReport.append(5, allowance);
            }
        } else {
            int own = game.units.on(cell) & game.units.ownedBy(game.turn);
            lastReport.append(4, Integer.bitCount(own));
        }
    }

    /** Rows of numbers that are read and written only where they have a place. */
    private static final class Row {
        static int read(int[] row, int i) {
            return i >= 0 && i < row.length ? row[i] : 0;
        }

        static void write(int[] row, int i, int value) {
            if (i >= 0 && i < row.length) {
                row[i] = value;
            }
        }

        static void increase(int[] row, int i, int more) {
            if (i >= 0 && i < row.length) {
                row[i] += more;
            }
        }

        static void clear(int[] row) {
            for (int i = 0; i < row.length; i++) {
                row[i] = 0;
            }
        }

        static void copy(int[] from, int[] to) {
            for (int i = 0; i < from.length && i < to.length; i++) {
                to[i] = from[i];
            }
        }

        static long readSet(long[] row, int i) {
            return i >= 0 && i < row.length ? row[i] : 0L;
        }

        static void copySets(long[] from, long[] to) {
            for (int i = 0; i < from.length && i < to.length; i++) {
                to[i] = from[i];
            }
        }
    }

    /** The shape of the map; a set of cells is a long, bit c for cell c. */
    private static final class Hexes {
        static final long ALL = 0x7FFFFFFFFFFFFFFFL;
        private static final long FIRST_COLUMN = 0x0040201008040201L;
        private static final long LAST_COLUMN = 0x4020100804020100L;
        private static final long EVEN_ROWS = 0x7FC01FF007FC01FFL;

        static long only(int cell) {
            return 1L << cell;
        }

        static boolean has(long set, int cell) {
            return (set >>> cell & 1L) != 0L;
        }

        static int lowest(long set) {
            for (int cell = 0; cell < CELLS; cell++) {
                if (has(set, cell)) {
                    return cell;
                }
            }
            return NONE;
        }

        /** All neighbors of the cells of a set. */
        static long around(long set) {
            long backward = (set & ~FIRST_COLUMN) >>> 1;
            long forward = (set & ~LAST_COLUMN) << 1;
            // Rows are shifted by turns, so the second column above and below depends on the row.
            long columns = set | (backward & EVEN_ROWS) | (forward & ~EVEN_ROWS);
            return (backward | forward | columns << COLUMNS | columns >>> COLUMNS) & ALL;
        }

        static int beside(int cell, int direction) {
            int row = cell / COLUMNS;
            int column = cell % COLUMNS;
            int shift = row % 2;
            switch (direction) {
                case 0:
                    return at(row, column + 1);
                case 1:
                    return at(row - 1, column + shift);
                case 2:
                    return at(row - 1, column + shift - 1);
                case 3:
                    return at(row, column - 1);
                case 4:
                    return at(row + 1, column + shift - 1);
                case 5:
                    return at(row + 1, column + shift);
                default:
                    return NONE;
            }
        }

        private static int at(int row, int column) {
            boolean isInside = row >= 0 && row < ROWS && column >= 0 && column < COLUMNS;
            return isInside ? COLUMNS * row + column : NONE;
        }

        static int apart(int one, int other) {
            int down = other / COLUMNS - one / COLUMNS;
            int aslant = slant(other) - slant(one);
            return Math.max(Math.abs(down + aslant), Math.max(Math.abs(down), Math.abs(aslant)));
        }

        /** The column counted along an axis that runs straight through the shifted rows. */
        private static int slant(int cell) {
            return cell % COLUMNS - cell / COLUMNS / 2;
        }
    }

    /** Terrain, roads and sources, and what follows from them alone. */
    private static final class Land {
        private static final int[] HEIGHTS = {0, 1, 2, 0, 3, 0};
        private static final int[] COVERS = {0, 1, 2, 0, 3, 0};
        private static final int[] PRICES = {1, 2, 2, 3, 4, 2, 3, 3, 5, 5, 2, 3, 3, 2, 6};
        private static final int GREATEST_HEIGHT = 3;
        private final long[] kinds = new long[TERRAINS];
        private final long[] sources = new long[SIDES];
        private long roads;

        void clear() {
            for (int terrain = 0; terrain < kinds.length; terrain++) {
                kinds[terrain] = terrain == 0 ? Hexes.ALL : 0L;
            }
            for (int side = 0; side < sources.length; side++) {
                sources[side] = 0L;
            }
            roads = 0L;
        }

        void copyFrom(Land other) {
            Row.copySets(other.kinds, kinds);
            Row.copySets(other.sources, sources);
            roads = other.roads;
        }

        int terrainAt(int cell) {
            for (int terrain = 0; terrain < kinds.length; terrain++) {
                if (Hexes.has(kinds[terrain], cell)) {
                    return terrain;
                }
            }
            return 0;
        }

        void shape(int cell, int terrain, boolean hasRoad) {
            long only = Hexes.only(cell);
            for (int kind = 0; kind < kinds.length; kind++) {
                kinds[kind] = kind == terrain ? kinds[kind] | only : kinds[kind] & ~only;
            }
            roads = hasRoad ? roads | only : roads & ~only;
        }

        void markSource(int cell, int side, boolean isSource) {
            long only = Hexes.only(cell);
            if (side >= 0 && side < sources.length) {
                sources[side] = isSource ? sources[side] | only : sources[side] & ~only;
            }
        }

        long roads() {
            return roads;
        }

        long sourcesOf(int side) {
            return Row.readSet(sources, side);
        }

        long waters() {
            return Row.readSet(kinds, WATER);
        }

        int coverAt(int cell) {
            return Row.read(COVERS, terrainAt(cell));
        }

        private long upToHeight(int height) {
            long low = 0L;
            for (int terrain = 0; terrain < kinds.length && terrain < HEIGHTS.length; terrain++) {
                if (HEIGHTS[terrain] <= height) {
                    low |= kinds[terrain];
                }
            }
            return low;
        }

        /** The cells whose terrain costs so much to enter, wherever there is no road. */
        long enteredFor(int price, int weather) {
            long found = 0L;
            for (int terrain = 0; terrain < WATER && terrain < kinds.length; terrain++) {
                if (priceOf(terrain, weather) == price) {
                    found |= kinds[terrain];
                }
            }
            return found;
        }

        private static int priceOf(int terrain, int weather) {
            return terrain < WATER ? Row.read(PRICES, WATER * weather + terrain) : 0;
        }

        int stepCost(int from, int to, int weather) {
            boolean isOnRoad = Hexes.has(roads, from) && Hexes.has(roads, to);
            return isOnRoad ? 1 : priceOf(terrainAt(to), weather);
        }

        long zoneAround(long cells) {
            return Hexes.around(cells) & ~waters() & ~Row.readSet(kinds, MOUNTAIN);
        }

        long seenFrom(int cell, int range) {
            int own = Row.read(HEIGHTS, terrainAt(cell));
            long seen = Hexes.only(cell);
            for (int height = own; height <= GREATEST_HEIGHT; height++) {
                long between = upToHeight(height);
                // Lower cells belong to the first round: there the own height is the greater one.
                long targets = height == own ? between : between & ~upToHeight(height - 1);
                seen |= targets & inSight(cell, range, between);
            }
            return seen;
        }

        /** The cells to which a shortest way leads whose inner cells are all in a set. */
        private static long inSight(int cell, int range, long between) {
            long near = Hexes.only(cell);
            long front = near;
            long found = 0L;
            for (int step = 1; step <= range; step++) {
                long next = Hexes.around(front) & ~near;
                found |= next;
                front = next & between;
                near |= Hexes.around(near);
            }
            return found;
        }
    }

    /** The units and the accounts of their strengths; a set of units is an int, bit u for unit u. */
    private static final class Units {
        private static final int MOST_OTHERS = 2;
        private static final int MOST_ON_CELL = 12;
        private int total;
        private int present;
        private int ofSecondSide;
        private int moved;
        private int attacked;
        private final int[] places = new int[MOST_UNITS];
        private final int[] strengths = new int[MOST_UNITS];
        private final int[] movements = new int[MOST_UNITS];
        private final int[] added = new int[SIDES];
        private final int[] lostInAttacks = new int[SIDES];
        private final int[] lostUnsupplied = new int[SIDES];
        private final int[] removed = new int[SIDES];

        void clear() {
            total = 0;
            present = 0;
            ofSecondSide = 0;
            beginTurn();
            Row.clear(added);
            Row.clear(lostInAttacks);
            Row.clear(lostUnsupplied);
            Row.clear(removed);
        }

        void copyFrom(Units other) {
            total = other.total;
            present = other.present;
            ofSecondSide = other.ofSecondSide;
            moved = other.moved;
            attacked = other.attacked;
            Row.copy(other.places, places);
            Row.copy(other.strengths, strengths);
            Row.copy(other.movements, movements);
            Row.copy(other.added, added);
            Row.copy(other.lostInAttacks, lostInAttacks);
            Row.copy(other.lostUnsupplied, lostUnsupplied);
            Row.copy(other.removed, removed);
        }

        void beginTurn() {
            moved = 0;
            attacked = 0;
        }

        static int only(int unit) {
            return 1 << unit;
        }

        static boolean has(int set, int unit) {
            return (set >>> unit & 1) != 0;
        }

        static int lowest(int set) {
            for (int unit = 0; unit < MOST_UNITS; unit++) {
                if (has(set, unit)) {
                    return unit;
                }
            }
            return NONE;
        }

        boolean isFull() {
            return total >= MOST_UNITS;
        }

        boolean exists(int unit) {
            return unit >= 0 && unit < MOST_UNITS && has(present, unit);
        }

        int howMany() {
            return Integer.bitCount(present);
        }

        int all() {
            return present;
        }

        int ownedBy(int side) {
            return side == 0 ? present & ~ofSecondSide : present & ofSecondSide;
        }

        int sideOf(int unit) {
            return has(ofSecondSide, unit) ? 1 : 0;
        }

        int placeOf(int unit) {
            return Row.read(places, unit);
        }

        int strengthOf(int unit) {
            return Row.read(strengths, unit);
        }

        int movementOf(int unit) {
            return Row.read(movements, unit);
        }

        int addedBy(int side) {
            return Row.read(added, side);
        }

        int lostInAttacksBy(int side) {
            return Row.read(lostInAttacks, side);
        }

        int lostUnsuppliedBy(int side) {
            return Row.read(lostUnsupplied, side);
        }

        int removedFrom(int side) {
            return Row.read(removed, side);
        }

        boolean hasMoved(int unit) {
            return has(moved, unit);
        }

        int attackedAlready() {
            return attacked;
        }

        int on(int cell) {
            return standingIn(Hexes.only(cell));
        }

        int standingIn(long cells) {
            int found = 0;
            for (int unit = 0; unit < places.length; unit++) {
                if (has(present, unit) && Hexes.has(cells, places[unit])) {
                    found |= only(unit);
                }
            }
            return found;
        }

        long placesOf(int set) {
            long found = 0L;
            for (int unit = 0; unit < places.length; unit++) {
                if (has(set, unit)) {
                    found |= Hexes.only(places[unit]);
                }
            }
            return found;
        }

        int strengthsOf(int set) {
            int sum = 0;
            for (int unit = 0; unit < strengths.length; unit++) {
                if (has(set, unit)) {
                    sum += strengths[unit];
                }
            }
            return sum;
        }

        /** Whether a cell has room for a strength of a side that joins the units of a set there. */
        boolean isRoomAt(int cell, int side, int strength, int set) {
            int there = standingIn(Hexes.only(cell)) & set;
            return (there & ownedBy(1 - side)) == 0
                    && Integer.bitCount(there) <= MOST_OTHERS
                    && strengthsOf(there) + strength <= MOST_ON_CELL;
        }

        boolean isRoomFor(int unit, int cell, int set) {
            return isRoomAt(cell, sideOf(unit), strengthOf(unit), set & ~only(unit));
        }

        int forceOf(int unit, boolean isSupplied) {
            return isSupplied ? strengthOf(unit) : halfOf(strengthOf(unit));
        }

        int allowanceOf(int unit, boolean isSupplied) {
            return isSupplied ? movementOf(unit) : halfOf(movementOf(unit));
        }

        private static int halfOf(int number) {
            return (number + 1) / 2;
        }

        int enlist(int side, int cell, int strength, int movement) {
            int unit = total;
            total++;
            present |= only(unit);
            if (side == 1) {
                ofSecondSide |= only(unit);
            }
            Row.write(places, unit, cell);
            Row.write(strengths, unit, strength);
            Row.write(movements, unit, movement);
            Row.increase(added, side, strength);
            return unit;
        }

        void placeAt(int unit, int cell) {
            Row.write(places, unit, cell);
        }

        void noteMove(int unit) {
            moved |= only(unit);
        }

        void noteAttack(int set) {
            attacked |= set;
        }

        void loseInAttack(int unit, int loss) {
            Row.increase(lostInAttacks, sideOf(unit), weaken(unit, loss));
        }

        void loseUnsupplied(int unit, int loss) {
            Row.increase(lostUnsupplied, sideOf(unit), weaken(unit, loss));
        }

        /** Takes a loss from a unit and returns how much of it the unit had to lose. */
        private int weaken(int unit, int loss) {
            int before = strengthOf(unit);
            if (before > loss) {
                Row.write(strengths, unit, before - loss);
                return loss;
            }
            Row.write(strengths, unit, 0);
            present &= ~only(unit);
            Row.increase(removed, sideOf(unit), 1);
            return before;
        }
    }

    /** Everything that is saved and can be taken back, and what a side sees and closes in it. */
    private static final class Game {
        private static final int FIRST_SUPPLY_RANGE = 10;
        private static final int[] SIGHT_RANGES = {4, 2, 3};
        final Land land = new Land();
        final Units units = new Units();
        int weather;
        int round;
        int turn;
        int supplyRange;
        int ambushes;
        int attacks;
        private int weatherNumber;

        void begin(int seed) {
            land.clear();
            units.clear();
            weather = 0;
            round = 0;
            turn = 0;
            supplyRange = FIRST_SUPPLY_RANGE;
            ambushes = 0;
            attacks = 0;
            weatherNumber = seed;
        }

        void copyFrom(Game other) {
            land.copyFrom(other.land);
            units.copyFrom(other.units);
            weather = other.weather;
            round = other.round;
            turn = other.turn;
            supplyRange = other.supplyRange;
            ambushes = other.ambushes;
            attacks = other.attacks;
            weatherNumber = other.weatherNumber;
        }

        int sightRange() {
            return Row.read(SIGHT_RANGES, weather);
        }

        boolean canMove(int unit) {
            return canAttack(unit) && !units.hasMoved(unit);
        }

        boolean canAttack(int unit) {
            return units.sideOf(unit) == turn && !Units.has(units.attackedAlready(), unit);
        }

        int attackersOn(int cell) {
            return units.on(cell) & units.ownedBy(turn) & ~units.attackedAlready();
        }

        int defendersOn(int cell) {
            return units.on(cell) & units.ownedBy(1 - turn);
        }

        long zoneOf(int side) {
            return land.zoneAround(units.placesOf(units.ownedBy(side)));
        }

        long seenBy(int side) {
            long own = units.placesOf(units.ownedBy(side));
            long seen = 0L;
            for (int cell = 0; cell < CELLS; cell++) {
                if (Hexes.has(own, cell)) {
                    seen |= land.seenFrom(cell, sightRange());
                }
            }
            return seen;
        }

        int knownTo(int side) {
            return units.ownedBy(1 - side) & units.standingIn(seenBy(side));
        }

        long closedFor(int side) {
            long own = units.placesOf(units.ownedBy(side));
            long hostile = units.placesOf(units.ownedBy(1 - side));
            return land.waters() | hostile | (land.zoneAround(hostile) & ~own);
        }

        void passTurn() {
            units.beginTurn();
            turn = 1 - turn;
            if (turn == 0) {
                round++;
                changeWeather();
            }
        }

        private void changeWeather() {
            weatherNumber = weatherNumber * 1103515245 + 12345;
            int drawn = (weatherNumber >>> 16) % 6;
            if (drawn <= 2) {
                weather = 0;
            } else {
                weather = drawn <= 4 ? RAIN : SNOW;
            }
        }
    }

    /**
     * Least costs as waves: wave k holds the cells whose least cost from the first cells is k.
     * Two cells with roads are also looked at with the price of the terrain; this finds nothing
     * wrong, as the step of cost 1 between them has by then found the cell at a lower cost.
     */
    private static final class Waves {
        private static final int GREATEST_PRICE = 6;
        private final long[] waves = new long[(CELLS - 1) * GREATEST_PRICE + 1];
        private final long[] useful = new long[(CELLS - 1) * GREATEST_PRICE + 1];
        private final long[] entered = new long[GREATEST_PRICE + 1];
        private final int[] trail = new int[CELLS];
        private int steps;
        private long roads;
        private long stops;
        private long barred;

        void layOut(Land land, int weather) {
            roads = land.roads();
            for (int price = 0; price < entered.length; price++) {
                entered[price] = land.enteredFor(price, weather);
            }
        }

        /**
         * Fills the waves from the first cells over the open ones; from a cell of stopping no step
         * is made, and from the first cells none to a cell of kept.
         */
        void flood(long first, long open, long stopping, long kept) {
            stops = stopping;
            barred = kept;
            long settled = 0L;
            int last = 0;
            for (int cost = 0; cost < waves.length; cost++) {
                long fresh = 0L;
                if (cost == 0) {
                    fresh = first;
                } else if (cost <= last + GREATEST_PRICE) {
                    fresh = arrivals(cost) & open & ~settled;
                }
                waves[cost] = fresh;
                settled |= fresh;
                if (fresh != 0L) {
                    last = cost;
                }
            }
        }

        private long arrivals(int cost) {
            long found = 0L;
            for (int price = 1; price < entered.length && price <= cost; price++) {
                long from = Row.readSet(waves, cost - price) & ~stops;
                if (from != 0L) {
                    long into = cost == price ? ~barred : Hexes.ALL;
                    found |= stepsFrom(from, price, entered[price]) & into;
                }
            }
            return found;
        }

        private long stepsFrom(long from, int price, long priced) {
            long found = Hexes.around(from) & priced;
            return price == 1 ? found | (Hexes.around(from & roads) & roads) : found;
        }

        int costOf(int cell) {
            for (int cost = 0; cost < waves.length; cost++) {
                if (Hexes.has(waves[cost], cell)) {
                    return cost;
                }
            }
            return NONE;
        }

        long within(int limit) {
            long found = 0L;
            for (int cost = 0; cost < waves.length && cost <= limit; cost++) {
                found |= waves[cost];
            }
            return found;
        }

        /** Finds the way with the least cost, then the least cells, after a flood from one cell. */
        void trace(int from, int to) {
            markUseful(to, costOf(to));
            steps = 0;
            int cell = from;
            for (int i = 0; i < trail.length && cell != NONE; i++) {
                trail[i] = cell;
                steps = i;
                cell = cell == to ? NONE : nextOnWay(cell, costOf(cell));
            }
        }

        /** Keeps of each wave only the cells through which a least way to the cell leads. */
        private void markUseful(int to, int least) {
            for (int cost = useful.length - 1; cost >= 0; cost--) {
                if (cost >= least) {
                    useful[cost] = cost == least ? Hexes.only(to) : 0L;
                } else {
                    useful[cost] = departures(cost) & Row.readSet(waves, cost) & ~stops;
                }
            }
        }

        private long departures(int cost) {
            long found = 0L;
            for (int price = 1; price < entered.length; price++) {
                long into = usefulAfter(cost, price);
                if (into != 0L) {
                    found |= Hexes.around(into & entered[price]);
                    if (price == 1) {
                        found |= Hexes.around(into & roads) & roads;
                    }
                }
            }
            return found;
        }

        private long usefulAfter(int cost, int price) {
            long into = Row.readSet(useful, cost + price);
            return cost == 0 ? into & ~barred : into;
        }

        private int nextOnWay(int cell, int cost) {
            long found = 0L;
            for (int price = 1; price < entered.length; price++) {
                long into = usefulAfter(cost, price);
                if (into != 0L) {
                    found |= into & stepsFrom(Hexes.only(cell), price, entered[price]);
                }
            }
            return Hexes.lowest(found);
        }

        int steps() {
            return steps;
        }

        int trailAt(int i) {
            return i >= 0 && i <= steps ? Row.read(trail, i) : NONE;
        }
    }

    /** The game as it is played: supply, ways, moves, attacks and the ends of turns. */
    private static final class Play {
        private static final int RETREAT_LOSS = 2;
        final Game game;
        private final Land land;
        private final Units units;
        private final Waves supplies;
        private final Waves ways;

        Play() {
            game = new Game();
            land = game.land;
            units = game.units;
            supplies = new Waves();
            ways = new Waves();
        }

        long suppliedCells(int side) {
            long open = ~game.closedFor(side) & Hexes.ALL;
            supplies.layOut(land, game.weather);
            supplies.flood(land.sourcesOf(side) & open, open, 0L, 0L);
            return supplies.within(game.supplyRange);
        }

        /** The supply cost of a cell, whether it is within the supply range or not, or NONE. */
        int supplyCostAt(int side, int cell) {
            suppliedCells(side);
            return supplies.costOf(cell);
        }

        boolean isSupplied(int unit) {
            return Hexes.has(suppliedCells(units.sideOf(unit)), units.placeOf(unit));
        }

        int allowanceOf(int unit) {
            return units.allowanceOf(unit, isSupplied(unit));
        }

        int forcesOf(int side) {
            return sumOfForces(units.ownedBy(side), suppliedCells(side));
        }

        private int sumOfForces(int set, long supplied) {
            int sum = 0;
            for (int unit = 0; unit < MOST_UNITS; unit++) {
                if (Units.has(set, unit)) {
                    sum += units.forceOf(unit, Hexes.has(supplied, units.placeOf(unit)));
                }
            }
            return sum;
        }

        private void floodWays(int unit) {
            int side = units.sideOf(unit);
            int known = game.knownTo(side);
            long start = Hexes.only(units.placeOf(unit));
            long zone = land.zoneAround(units.placesOf(known));
            long open = ~land.waters() & ~units.placesOf(known) & Hexes.ALL;
            long kept = (zone & start) != 0L ? zone & ~units.placesOf(units.ownedBy(side)) : 0L;
            ways.layOut(land, game.weather);
            ways.flood(start, open, zone & ~start, kept);
        }

        /** Finds the way of a unit to another cell; returns its cost, or NONE. */
        int findWay(int unit, int cell) {
            int place = units.placeOf(unit);
            if (place == cell) {
                return NONE;
            }
            floodWays(unit);
            int found = ways.costOf(cell);
            if (found != NONE) {
                ways.trace(place, cell);
            }
            return found;
        }

        /** A cell of the way that was found last, or NONE behind its end. */
        int wayAt(int i) {
            return ways.trailAt(i);
        }

        long reachOf(int unit, int allowance) {
            floodWays(unit);
            long near = ways.within(allowance) & ~Hexes.only(units.placeOf(unit));
            int inSight = unitsInSight(unit);
            long found = 0L;
            for (int cell = 0; cell < CELLS; cell++) {
                if (Hexes.has(near, cell) && units.isRoomFor(unit, cell, inSight)) {
                    found |= Hexes.only(cell);
                }
            }
            return found;
        }

        boolean isRoomInSight(int unit, int cell) {
            return units.isRoomFor(unit, cell, unitsInSight(unit));
        }

        private int unitsInSight(int unit) {
            int side = units.sideOf(unit);
            return units.ownedBy(side) | game.knownTo(side);
        }

        /** Moves a unit along the way that was found last. */
        void march(int unit) {
            int end = backToRoom(unit, stopOf(unit));
            units.noteMove(unit);
            units.placeAt(unit, ways.trailAt(end));
        }

        /** The number of steps after which the unit stops, be it at the end or on the way. */
        private int stopOf(int unit) {
            int otherSide = 1 - units.sideOf(unit);
            long hostile = units.placesOf(units.ownedBy(otherSide));
            long zone = land.zoneAround(hostile);
            for (int i = 1; i <= ways.steps(); i++) {
                int next = ways.trailAt(i);
                if (Hexes.has(hostile, next)) {
                    game.ambushes++;
                    return i - 1;
                }
                if (Hexes.has(zone, next)) {
                    return i;
                }
            }
            return ways.steps();
        }

        private int backToRoom(int unit, int stop) {
            int end = stop;
            while (end > 0 && !units.isRoomFor(unit, ways.trailAt(end), units.all())) {
                end--;
            }
            return end;
        }

        int attackFrom(int cell) {
            int forces = sumOfForces(game.attackersOn(cell), suppliedCells(game.turn));
            return game.weather == RAIN ? forces - 1 : forces;
        }

        int defenseAt(int cell) {
            int forces = sumOfForces(game.defendersOn(cell), suppliedCells(1 - game.turn));
            return forces + land.coverAt(cell);
        }

        int fight(int from, int to) {
            int attackers = game.attackersOn(from);
            int defenders = game.defendersOn(to);
            int attack = attackFrom(from);
            int defense = defenseAt(to);
            game.attacks++;
            units.noteAttack(attackers);
            if (attack >= 2 * defense) {
                loseEach(defenders);
                retreatEach(defenders, from);
                return 2;
            }
            if (attack > defense) {
                units.loseInAttack(Units.lowest(attackers), 1);
                units.loseInAttack(Units.lowest(defenders), 1);
                return 1;
            }
            loseEach(attackers);
            return 0;
        }

        private void loseEach(int set) {
            for (int unit = 0; unit < MOST_UNITS; unit++) {
                if (Units.has(set, unit)) {
                    units.loseInAttack(unit, 1);
                }
            }
        }

        private void retreatEach(int set, int from) {
            for (int unit = 0; unit < MOST_UNITS; unit++) {
                if (Units.has(set, unit) && units.exists(unit)) {
                    int refuge = refugeOf(unit, from);
                    if (refuge == NONE) {
                        units.loseInAttack(unit, RETREAT_LOSS);
                    } else {
                        units.placeAt(unit, refuge);
                    }
                }
            }
        }

        private int refugeOf(int unit, int from) {
            int side = units.sideOf(unit);
            long own = units.placesOf(units.ownedBy(side));
            long safe = ~land.waters() & (~game.zoneOf(1 - side) | own);
            int best = NONE;
            for (int direction = 0; direction < DIRECTIONS; direction++) {
                int cell = Hexes.beside(units.placeOf(unit), direction);
                boolean isOpen = cell != NONE && Hexes.has(safe, cell)
                        && units.isRoomFor(unit, cell, units.all());
                if (isOpen && (best == NONE || isBetterRefuge(unit, from, cell, best))) {
                    best = cell;
                }
            }
            return best;
        }

        private boolean isBetterRefuge(int unit, int from, int cell, int best) {
            int farther = Hexes.apart(from, cell) - Hexes.apart(from, best);
            if (farther != 0) {
                return farther > 0;
            }
            int place = units.placeOf(unit);
            int dearer = land.stepCost(place, cell, game.weather) - land.stepCost(place, best, game.weather);
            return dearer != 0 ? dearer < 0 : cell < best;
        }

        int finishTurn() {
            int own = units.ownedBy(game.turn);
            int before = units.howMany();
            int unsupplied = own & ~units.standingIn(suppliedCells(game.turn));
            for (int unit = 0; unit < MOST_UNITS; unit++) {
                if (Units.has(unsupplied, unit)) {
                    units.loseUnsupplied(unit, 1);
                }
            }
            game.passTurn();
            return before - units.howMany();
        }
    }

    /** The changes that can be taken back, as the games before them; the oldest one makes way. */
    private static final class History {
        private static final int MOST_CHANGES = 8;
        private final Game[] before;
        private int next;
        private int held;

        History() {
            before = new Game[MOST_CHANGES];
            for (int i = 0; i < before.length; i++) {
                before[i] = new Game();
            }
        }

        int held() {
            return held;
        }

        void forget() {
            held = 0;
        }

        void keep(Game game) {
            Game kept = keptAt(next);
            if (kept != null) {
                kept.copyFrom(game);
                next = next + 1 < MOST_CHANGES ? next + 1 : 0;
                held = Math.min(held + 1, MOST_CHANGES);
            }
        }

        void takeBack(Game game) {
            int latest = next > 0 ? next - 1 : MOST_CHANGES - 1;
            Game kept = keptAt(latest);
            if (held > 0 && kept != null) {
                game.copyFrom(kept);
                next = latest;
                held--;
            }
        }

        private Game keptAt(int i) {
            return i >= 0 && i < before.length ? before[i] : null;
        }
    }

    /** Why a move was refused, level by level. */
    private static final class Report {
        private static final int MOST_LEVELS = 3;
        private final int[] codes = new int[MOST_LEVELS];
        private final int[] details = new int[MOST_LEVELS];
        private int levels;

        void begin(int unit) {
            levels = 0;
            append(1, unit);
        }

        void append(int code, int detail) {
            if (levels < MOST_LEVELS) {
                Row.write(codes, levels, code);
                Row.write(details, levels, detail);
                levels++;
            }
        }

        int levels() {
            return levels;
        }

        int codeOf(int level) {
            return Row.read(codes, level);
        }

        int detailOf(int level) {
            return Row.read(details, level);
        }
    }

    /** The text of a map: which cell stands where, and by which letter. */
    private static final class Letters {
        static final char SEPARATOR = '/';
        static final int ROW_LENGTH = COLUMNS + 1;
        static final int MAP_LENGTH = ROWS * ROW_LENGTH - 1;
        private static final String WITHOUT_ROAD = "pwhsm~";
        private static final String WITH_ROAD = "PWHSM";

        /** The cell of a place in a text, or NONE for the place of a separator. */
        static int cellAt(int i) {
            int column = i % ROW_LENGTH;
            return column < COLUMNS ? COLUMNS * (i / ROW_LENGTH) + column : NONE;
        }

        static char letterOf(int terrain, boolean hasRoad) {
            String letters = hasRoad ? WITH_ROAD : WITHOUT_ROAD;
            return terrain >= 0 && terrain < letters.length() ? letters.charAt(terrain) : SEPARATOR;
        }

        /** The terrain of a letter, or NONE. */
        static int terrainOf(char letter) {
            int terrain = placeIn(WITHOUT_ROAD, letter);
            return terrain != NONE ? terrain : placeIn(WITH_ROAD, letter);
        }

        static boolean hasRoad(char letter) {
            return placeIn(WITH_ROAD, letter) != NONE;
        }

        private static int placeIn(String letters, char letter) {
            for (int i = 0; i < letters.length(); i++) {
                if (letters.charAt(i) == letter) {
                    return i;
                }
            }
            return NONE;
        }
    }

    /** The input buffer, and the map that it tells. */
    private static final class MapInput {
        private static final int MOST_CHARACTERS = 80;
        private final char[] characters = new char[MOST_CHARACTERS];
        private int length;

        boolean isFull() {
            return length >= characters.length;
        }

        int append(char letter) {
            if (length >= 0 && length < characters.length) {
                characters[length] = letter;
                length++;
            }
            return length;
        }

        void clear() {
            length = 0;
        }

        int errorPosition() {
            for (int i = 0; i < length && i < characters.length; i++) {
                if (!canStandAt(i, characters[i])) {
                    return i;
                }
            }
            return NONE;
        }

        private static boolean canStandAt(int i, char letter) {
            if (i >= Letters.MAP_LENGTH) {
                return false;
            }
            return Letters.cellAt(i) == NONE
                    ? letter == Letters.SEPARATOR
                    : Letters.terrainOf(letter) != NONE;
        }

        /** The number of places that are not those of separators. */
        int letters() {
            return length - length / Letters.ROW_LENGTH;
        }

        long waters() {
            long found = 0L;
            for (int i = 0; i < length && i < characters.length; i++) {
                int cell = Letters.cellAt(i);
                if (cell != NONE && Letters.terrainOf(characters[i]) == WATER) {
                    found |= Hexes.only(cell);
                }
            }
            return found;
        }

        void shapeAll(Land land) {
            for (int i = 0; i < length && i < characters.length; i++) {
                int cell = Letters.cellAt(i);
                if (cell != NONE) {
                    land.shape(cell, Letters.terrainOf(characters[i]), Letters.hasRoad(characters[i]));
                }
            }
        }
    }
}
