import java.util.ArrayList;
import java.util.Arrays;
import java.util.List;
import java.util.Random;

/** Draws figures, valid ones and others, on a small grid, where shapes touch, cover and cross one another often. */
final class FigureMaker {
    private final Random random;

    FigureMaker(long seed) {
        random = new Random(seed);
    }

    int below(int n) {
        return random.nextInt(n);
    }

    Figure figure(int grid) {
        int kind = below(8);
        if (kind == 0) {
            return new Figure(0, new long[] {below(grid), below(grid)});
        }
        if (kind <= 3) {
            return line(grid);
        }
        return polygon(grid);
    }

    Figure line(int grid) {
        int n = 2 + below(below(4) == 0 ? 8 : 3);
        long[] numbers = new long[2 * n];
        for (int i = 0; i < n; i++) {
            numbers[2 * i] = below(grid);
            numbers[2 * i + 1] = below(grid);
            boolean alike = i > 0 && numbers[2 * i] == numbers[2 * i - 2] && numbers[2 * i + 1] == numbers[2 * i - 1];
            if (alike && below(20) > 0) {
                numbers[2 * i] = (numbers[2 * i] + 1) % grid;
            }
        }
        if (below(4) == 0) {
            numbers[2 * n - 2] = numbers[0];
            numbers[2 * n - 1] = numbers[1];
        }
        return new Figure(1, numbers);
    }

    Figure polygon(int grid) {
        List<long[]> rows = new ArrayList<>();
        rows.add(below(3) == 0 ? ring(grid) : below(2) == 0 ? box(0, 0, grid - 1, grid - 1) : someBox(grid));
        int holes = below(3) == 0 ? below(6) : below(2);
        for (int i = 0; i < holes; i++) {
            rows.add(smallRing(grid));
        }
        return new Figure(2, rows.toArray(new long[0][]));
    }

    private static long[] box(long x1, long y1, long x2, long y2) {
        return new long[] {x1, y1, x2, y1, x2, y2, x1, y2, x1, y1};
    }

    private long[] someBox(int grid) {
        int x = below(grid - 1);
        int y = below(grid - 1);
        return box(x, y, x + 1 + below(grid - 1 - x), y + 1 + below(grid - 1 - y));
    }

    /** Three to eight places in any order, or going round a middle, so that it is often simple. */
    long[] ring(int grid) {
        int n = 3 + below(below(3) == 0 ? 6 : 3);
        long[][] places = new long[n][];
        for (int i = 0; i < n; i++) {
            places[i] = new long[] {below(grid), below(grid)};
        }
        if (n > 4 || below(2) == 0) {
            double mx = grid / 2.0 - 0.3;
            double my = grid / 2.0 - 0.6;
            Arrays.sort(places, (a, b) -> Double.compare(Math.atan2(a[1] - my, a[0] - mx), Math.atan2(b[1] - my, b[0] - mx)));
        }
        return closed(places);
    }

    /** A line that crosses and covers itself, or a ring of many places. */
    Figure longFigure(int grid, int places) {
        long[][] row = new long[places][];
        for (int i = 0; i < places; i++) {
            row[i] = new long[] {below(grid), below(grid)};
        }
        if (below(3) == 0) {
            return new Figure(1, Oracle.flat(row));
        }
        double mx = grid / 2.0 - 0.3;
        double my = grid / 2.0 - 0.6;
        Arrays.sort(row, (a, b) -> Double.compare(Math.atan2(a[1] - my, a[0] - mx), Math.atan2(b[1] - my, b[0] - mx)));
        return new Figure(2, closed(row));
    }

    /** A walk along the lines of a grid, or the outline of some of its cells: much of these runs along one another. */
    Figure cellFigure(int grid) {
        if (below(3) == 0) {
            return walk(grid);
        }
        for (int tries = 0; tries < 50; tries++) {
            Figure outline = outline(someCells(grid), grid);
            if (outline != null && outline.size() <= 40 && outline.rows.size() <= 8) {
                return outline;
            }
        }
        return walk(grid);
    }

    private Figure walk(int grid) {
        int n = 2 + below(3);
        long[] numbers = new long[2 * n];
        numbers[0] = below(grid + 1);
        numbers[1] = below(grid + 1);
        for (int i = 1; i < n; i++) {
            int axis = below(2);
            numbers[2 * i] = numbers[2 * i - 2];
            numbers[2 * i + 1] = numbers[2 * i - 1];
            numbers[2 * i + axis] = (numbers[2 * i + axis] + 1 + below(grid)) % (grid + 1);
        }
        return new Figure(1, numbers);
    }

    /** Cells grown from one, each beside an earlier one. */
    private boolean[] someCells(int grid) {
        boolean[] cells = new boolean[grid * grid];
        cells[below(cells.length)] = true;
        int wanted = 1 + below(cells.length);
        for (int tries = 0; tries < 20 * wanted && wanted > 1; tries++) {
            int c = below(cells.length);
            boolean beside = has(cells, grid, c % grid - 1, c / grid) || has(cells, grid, c % grid + 1, c / grid)
                || has(cells, grid, c % grid, c / grid - 1) || has(cells, grid, c % grid, c / grid + 1);
            if (!cells[c] && beside) {
                cells[c] = true;
                wanted--;
            }
        }
        return cells;
    }

    private static boolean has(boolean[] cells, int grid, int x, int y) {
        return x >= 0 && y >= 0 && x < grid && y < grid && cells[y * grid + x];
    }

    /** Goes round the cells, these to the left; null where two cells have only a corner in common. */
    private Figure outline(boolean[] cells, int grid) {
        int side = grid + 1;
        int[] next = new int[side * side];
        Arrays.fill(next, -1);
        for (int y = 0; y < grid; y++) {
            for (int x = 0; x < grid; x++) {
                int v = y * side + x;
                int[][] ways = {{0, -1, v, v + 1}, {1, 0, v + 1, v + 1 + side}, {0, 1, v + 1 + side, v + side}, {-1, 0, v + side, v}};
                for (int[] way : ways) {
                    if (has(cells, grid, x, y) && !has(cells, grid, x + way[0], y + way[1])) {
                        if (next[way[2]] >= 0) {
                            return null;
                        }
                        next[way[2]] = way[3];
                    }
                }
            }
        }
        return chained(next, side);
    }

    /** The first vertex is the lowest, so the first ring is the outer one. */
    private Figure chained(int[] next, int side) {
        Figure f = new Figure(2);
        boolean dense = below(4) == 0;
        for (int v = 0; v < next.length; v++) {
            List<long[]> ring = new ArrayList<>();
            int w = v;
            int from = -1;
            while (next[w] >= 0) {
                int to = next[w];
                if (from < 0 || to - w != w - from || dense && below(2) == 0) {
                    ring.add(new long[] {w % side, w / side});
                }
                next[w] = -1;
                from = w;
                w = to;
            }
            if (!ring.isEmpty()) {
                ring.add(ring.get(0));
                f.rows.add(ring.toArray(new long[0][]));
            }
        }
        return f;
    }

    private long[] closed(long[][] places) {
        long[] numbers = new long[2 * places.length + 2];
        for (int i = 0; i <= places.length; i++) {
            numbers[2 * i] = places[i % places.length][0];
            numbers[2 * i + 1] = places[i % places.length][1];
        }
        if (below(40) == 0) {
            numbers[0]++;
        }
        return numbers;
    }

    private long[] smallRing(int grid) {
        if (below(8) == 0) {
            return ring(grid);
        }
        int x = below(grid - 1);
        int y = below(grid - 1);
        switch (below(4)) {
            case 0:
                return box(x, y, Math.min(grid - 1, x + 1 + below(2)), Math.min(grid - 1, y + 1 + below(2)));
            case 1:
                return new long[] {x + 1, y, x + 2, y + 1, x + 1, y + 2, x, y + 1, x + 1, y};
            default:
                long[][] places = new long[3][];
                for (int i = 0; i < 3; i++) {
                    places[i] = new long[] {Math.min(grid - 1, x + below(3)), Math.min(grid - 1, y + below(3))};
                }
                return closed(places);
        }
    }

    /** A map of the plane that keeps all relations and takes a grid to numbers up to 1073741823 in size. */
    long[] map(int grid) {
        long most = 1073741823L / (2L * grid) - 1;
        while (true) {
            long[] m = new long[6];
            for (int i = 0; i < 6; i++) {
                boolean shift = i % 3 == 2;
                m[i] = below(8) == 0 && !shift ? below(3) - 1 : (long) ((random.nextDouble() * 2 - 1) * most);
            }
            if (below(3) == 0) {
                long near = below(5);
                m[3] = m[0] + near;
                m[4] = m[1] + (near == 0 ? 1 : -near);
            }
            if (m[0] * m[4] - m[1] * m[3] != 0 && inPlane(m, grid)) {
                return m;
            }
        }
    }

    private static boolean inPlane(long[] m, int grid) {
        long[][] corners = {{0, 0}, {grid + 1, 0}, {0, grid + 1}, {grid + 1, grid + 1}};
        for (long[] c : corners) {
            if (Math.abs(m[0] * c[0] + m[1] * c[1] + m[2]) > 1073741823L || Math.abs(m[3] * c[0] + m[4] * c[1] + m[5]) > 1073741823L) {
                return false;
            }
        }
        return true;
    }

    /** Any number of the plane, often a greatest one, or one beside another. */
    long wide(long near) {
        switch (below(4)) {
            case 0:
                return below(2) == 0 ? 1073741823L : -1073741823L;
            case 1:
                return Math.max(-1073741823L, Math.min(1073741823L, near + below(3) - 1));
            default:
                return (long) ((random.nextDouble() * 2 - 1) * 1073741823L);
        }
    }

    Figure wideFigure() {
        int kind = below(3);
        int n = kind == 0 ? 1 : kind == 1 ? 2 + below(3) : 3 + below(2);
        long[] numbers = new long[2 * n + (kind == 2 ? 2 : 0)];
        for (int i = 0; i < n; i++) {
            numbers[2 * i] = wide(i > 0 ? numbers[2 * i - 2] : 0);
            numbers[2 * i + 1] = wide(i > 0 ? numbers[2 * i - 1] : 0);
        }
        if (kind == 2) {
            numbers[2 * n] = numbers[0];
            numbers[2 * n + 1] = numbers[1];
        }
        return new Figure(kind, numbers);
    }
}
