/**
 * The map once more, by the places of the centers of its cells, so that the neighbors of all rows
 * are told by one rule: x counts halves of a column, y counts rows.
 */
final class Grid {
    private static final int[][] STEPS = {{2, 0}, {1, -1}, {-1, -1}, {-2, 0}, {-1, 1}, {1, 1}};

    private Grid() {
    }

    private static int x(int cell) {
        return 2 * (cell % 9) + cell / 9 % 2;
    }

    private static int y(int cell) {
        return cell / 9;
    }

    /** The neighbor in a direction, or -1 where the map ends. */
    static int neighbor(int cell, int direction) {
        for (int other = 0; other < 63; other++) {
            if (x(other) - x(cell) == STEPS[direction][0] && y(other) - y(cell) == STEPS[direction][1]) {
                return other;
            }
        }
        return -1;
    }

    static int distance(int one, int other) {
        int across = Math.abs(x(one) - x(other));
        int down = Math.abs(y(one) - y(other));
        return down + Math.max(0, (across - down) / 2);
    }

    /** The cells at a distance of at least and at most so many steps. */
    static long ring(int cell, int least, int most) {
        long found = 0;
        for (int other = 0; other < 63; other++) {
            int distance = distance(cell, other);
            found |= distance >= least && distance <= most ? 1L << other : 0;
        }
        return found;
    }

    static long around(int cell) {
        return ring(cell, 1, 1);
    }
}
