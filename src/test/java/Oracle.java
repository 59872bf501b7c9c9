import java.math.BigInteger;
import java.util.ArrayList;
import java.util.List;
import java.util.TreeSet;

/**
 * Tells relations, validity, windows and distances by brute force, from the document's words alone: the
 * ways of the shapes cut the plane into vertices, edges and faces, a point is taken from each of them,
 * and each such point is looked up in each shape by fractions of unlimited size.
 */
final class Oracle {
    static final int INTERIOR = 1;
    static final int BOUNDARY = 0;
    static final int EXTERIOR = -1;

    private Oracle() {
    }

    /** n / d with d above 0. */
    static final class Fraction implements Comparable<Fraction> {
        final BigInteger n;
        final BigInteger d;

        Fraction(BigInteger n, BigInteger d) {
            BigInteger g = n.gcd(d);
            if (d.signum() < 0) {
                g = g.negate();
            }
            this.n = n.divide(g);
            this.d = d.divide(g);
        }

        static Fraction of(long value) {
            return new Fraction(BigInteger.valueOf(value), BigInteger.ONE);
        }

        Fraction middle(Fraction o) {
            return new Fraction(n.multiply(o.d).add(o.n.multiply(d)), d.multiply(o.d).shiftLeft(1));
        }

        Fraction plus(long value) {
            return new Fraction(n.add(d.multiply(BigInteger.valueOf(value))), d);
        }

        @Override
        public int compareTo(Fraction o) {
            return n.multiply(o.d).compareTo(o.n.multiply(d));
        }

        @Override
        public boolean equals(Object o) {
            return o instanceof Fraction && compareTo((Fraction) o) == 0;
        }

        @Override
        public int hashCode() {
            return n.hashCode() ^ d.hashCode();
        }
    }

    /** (x / w, y / w); generic ones stand for an edge or a face, the others for a vertex. */
    static final class Sample {
        final BigInteger x;
        final BigInteger y;
        final BigInteger w;
        final boolean generic;
        final boolean small;
        final long lx;
        final long ly;
        final long lw;

        Sample(Fraction fx, Fraction fy, boolean generic) {
            w = fx.d.multiply(fy.d);
            x = fx.n.multiply(fy.d);
            y = fy.n.multiply(fx.d);
            this.generic = generic;
            small = x.bitLength() < 40 && y.bitLength() < 40 && w.bitLength() < 40;
            lx = x.longValue();
            ly = y.longValue();
            lw = w.longValue();
        }

        private static boolean isSmall(long v) {
            return v > -1000 && v < 1000;
        }

        int side(long[] a, long[] b) {
            long dx = b[0] - a[0];
            long dy = b[1] - a[1];
            if (small && isSmall(dx) && isSmall(dy) && isSmall(a[0]) && isSmall(a[1])) {
                return Long.signum(dx * (ly - a[1] * lw) - dy * (lx - a[0] * lw));
            }
            BigInteger px = x.subtract(w.multiply(BigInteger.valueOf(a[0])));
            BigInteger py = y.subtract(w.multiply(BigInteger.valueOf(a[1])));
            return BigInteger.valueOf(dx).multiply(py).subtract(BigInteger.valueOf(dy).multiply(px)).signum();
        }

        int compareX(long v) {
            return small && isSmall(v) ? Long.compare(lx, lw * v) : x.compareTo(w.multiply(BigInteger.valueOf(v)));
        }

        int compareY(long v) {
            return small && isSmall(v) ? Long.compare(ly, lw * v) : y.compareTo(w.multiply(BigInteger.valueOf(v)));
        }

        boolean isAt(long[] a) {
            return compareX(a[0]) == 0 && compareY(a[1]) == 0;
        }

        boolean isOn(long[] a, long[] b) {
            return compareX(Math.min(a[0], b[0])) >= 0 && compareX(Math.max(a[0], b[0])) <= 0
                && compareY(Math.min(a[1], b[1])) >= 0 && compareY(Math.max(a[1], b[1])) <= 0 && side(a, b) == 0;
        }
    }

    static boolean isOnRow(long[][] row, Sample p) {
        for (int i = 0; i + 1 < row.length; i++) {
            if (p.isOn(row[i], row[i + 1])) {
                return true;
            }
        }
        return false;
    }

    static boolean isInside(long[][] ring, Sample p) {
        boolean odd = false;
        for (int i = 0; i + 1 < ring.length; i++) {
            long[] a = ring[i];
            long[] b = ring[i + 1];
            boolean aAbove = p.compareY(a[1]) < 0;
            boolean bAbove = p.compareY(b[1]) < 0;
            if (aAbove != bAbove && (bAbove ? p.side(a, b) > 0 : p.side(a, b) < 0)) {
                odd = !odd;
            }
        }
        return odd;
    }

    static int ringLie(long[][] ring, Sample p) {
        return isOnRow(ring, p) ? BOUNDARY : isInside(ring, p) ? INTERIOR : EXTERIOR;
    }

    static int locate(Figure f, Sample p) {
        long[][] first = f.rows.get(0);
        if (f.kind == 0) {
            return p.isAt(first[0]) ? INTERIOR : EXTERIOR;
        }
        if (f.kind == 1) {
            long[] from = first[0];
            long[] to = first[first.length - 1];
            boolean closed = from[0] == to[0] && from[1] == to[1];
            if (!closed && (p.isAt(from) || p.isAt(to))) {
                return BOUNDARY;
            }
            return isOnRow(first, p) ? INTERIOR : EXTERIOR;
        }
        for (long[][] ring : f.rows) {
            if (isOnRow(ring, p)) {
                return BOUNDARY;
            }
        }
        boolean in = isInside(first, p);
        for (int r = 1; r < f.rows.size(); r++) {
            in &= !isInside(f.rows.get(r), p);
        }
        return in ? INTERIOR : EXTERIOR;
    }

    static List<long[][]> ways(Figure... figures) {
        List<long[][]> all = new ArrayList<>();
        for (Figure f : figures) {
            for (long[][] row : f.rows) {
                for (int i = 0; i + 1 < row.length; i++) {
                    all.add(new long[][] {row[i], row[i + 1]});
                }
                if (row.length == 1) {
                    all.add(new long[][] {row[0], row[0]});
                }
            }
        }
        return all;
    }

    static BigInteger cross(long ax, long ay, long bx, long by) {
        return BigInteger.valueOf(ax).multiply(BigInteger.valueOf(by))
            .subtract(BigInteger.valueOf(ay).multiply(BigInteger.valueOf(bx)));
    }

    /** x where the lines of two ways meet, if it is on both of them; null if it is not or they are parallel. */
    static Fraction crossingX(long[][] s, long[][] t) {
        long dx = s[1][0] - s[0][0];
        long dy = s[1][1] - s[0][1];
        long ex = t[1][0] - t[0][0];
        long ey = t[1][1] - t[0][1];
        BigInteger under = cross(dx, dy, ex, ey);
        if (under.signum() == 0) {
            return null;
        }
        BigInteger over = cross(t[0][0] - s[0][0], t[0][1] - s[0][1], ex, ey);
        BigInteger other = cross(t[0][0] - s[0][0], t[0][1] - s[0][1], dx, dy);
        if (under.signum() < 0) {
            under = under.negate();
            over = over.negate();
            other = other.negate();
        }
        boolean onBoth = over.signum() >= 0 && over.compareTo(under) <= 0 && other.signum() >= 0 && other.compareTo(under) <= 0;
        return onBoth ? new Fraction(under.multiply(BigInteger.valueOf(s[0][0])).add(over.multiply(BigInteger.valueOf(dx))), under) : null;
    }

    static List<Fraction> criticalXs(List<long[][]> ways) {
        TreeSet<Fraction> xs = new TreeSet<>();
        for (int i = 0; i < ways.size(); i++) {
            xs.add(Fraction.of(ways.get(i)[0][0]));
            xs.add(Fraction.of(ways.get(i)[1][0]));
            for (int j = 0; j < i; j++) {
                Fraction x = crossingX(ways.get(i), ways.get(j));
                if (x != null) {
                    xs.add(x);
                }
            }
        }
        return new ArrayList<>(xs);
    }

    static List<Fraction> ysAt(List<long[][]> ways, Fraction x) {
        TreeSet<Fraction> ys = new TreeSet<>();
        for (long[][] way : ways) {
            long[] a = way[0];
            long[] b = way[1];
            if (x.compareTo(Fraction.of(Math.min(a[0], b[0]))) < 0 || x.compareTo(Fraction.of(Math.max(a[0], b[0]))) > 0) {
                continue;
            }
            if (a[0] == b[0]) {
                ys.add(Fraction.of(a[1]));
                ys.add(Fraction.of(b[1]));
                continue;
            }
            BigInteger dx = BigInteger.valueOf(b[0] - a[0]);
            BigInteger dy = BigInteger.valueOf(b[1] - a[1]);
            BigInteger over = x.n.subtract(x.d.multiply(BigInteger.valueOf(a[0]))).multiply(dy);
            BigInteger under = dx.multiply(x.d);
            ys.add(new Fraction(under.multiply(BigInteger.valueOf(a[1])).add(over), under));
        }
        return new ArrayList<>(ys);
    }

    static void addSamples(List<Sample> samples, List<long[][]> ways, Fraction x, boolean critical) {
        List<Fraction> ys = ysAt(ways, x);
        for (int i = 0; i < ys.size(); i++) {
            samples.add(new Sample(x, ys.get(i), !critical));
            if (i == 0) {
                samples.add(new Sample(x, ys.get(i).plus(-1), true));
            }
            samples.add(new Sample(x, i + 1 < ys.size() ? ys.get(i).middle(ys.get(i + 1)) : ys.get(i).plus(1), true));
        }
    }

    static List<Sample> samples(List<long[][]> ways) {
        List<Sample> samples = new ArrayList<>();
        List<Fraction> xs = criticalXs(ways);
        for (int i = 0; i < xs.size(); i++) {
            addSamples(samples, ways, xs.get(i), true);
            if (i + 1 < xs.size()) {
                addSamples(samples, ways, xs.get(i).middle(xs.get(i + 1)), false);
            }
        }
        return samples;
    }

    /** Bit rel is set if a is in that relation to b. */
    static int relations(Figure a, Figure b) {
        boolean meet = false;
        boolean interiorsMeet = false;
        boolean aIn = true;
        boolean bIn = true;
        for (Sample p : samples(ways(a, b))) {
            int inA = locate(a, p);
            int inB = locate(b, p);
            meet |= inA != EXTERIOR && inB != EXTERIOR;
            interiorsMeet |= inA == INTERIOR && inB == INTERIOR;
            aIn &= inA == EXTERIOR || inB != EXTERIOR;
            bIn &= inB == EXTERIOR || inA != EXTERIOR;
        }
        return (meet ? 1 : 2) | (meet && !interiorsMeet ? 4 : 0) | (aIn && interiorsMeet ? 8 : 0) | (bIn && interiorsMeet ? 16 : 0);
    }

    static boolean isInWindow(Figure f, long x1, long y1, long x2, long y2) {
        Figure frame = new Figure(1, new long[] {x1, y1, x2, y1, x2, y2, x1, y2, x1, y1});
        for (Sample p : samples(ways(f, frame))) {
            boolean in = p.compareX(x1) >= 0 && p.compareX(x2) <= 0 && p.compareY(y1) >= 0 && p.compareY(y2) <= 0;
            if (in && locate(f, p) != EXTERIOR) {
                return true;
            }
        }
        return false;
    }

    static boolean isValid(Figure f) {
        if (f.kind == 0) {
            return true;
        }
        for (long[][] row : f.rows) {
            if (row.length < (f.kind == 1 ? 2 : 4) || hasPauses(row)) {
                return false;
            }
        }
        if (f.kind == 1) {
            return true;
        }
        for (long[][] ring : f.rows) {
            long[] from = ring[0];
            long[] to = ring[ring.length - 1];
            if (from[0] != to[0] || from[1] != to[1] || !isSimple(ring)) {
                return false;
            }
        }
        return doRingsFit(f) && pieces(f) == 1;
    }

    private static boolean hasPauses(long[][] row) {
        for (int i = 0; i + 1 < row.length; i++) {
            if (row[i][0] == row[i + 1][0] && row[i][1] == row[i + 1][1]) {
                return true;
            }
        }
        return false;
    }

    /** A point of a simple ring is on two ways only if it is the place between these two neighbours. */
    private static boolean isSimple(long[][] ring) {
        List<long[][]> ways = ways(new Figure(1, flat(ring)));
        int n = ways.size();
        for (Sample p : samples(ways)) {
            for (int i = 0; i < n; i++) {
                for (int j = 0; j < i; j++) {
                    if (!p.isOn(ways.get(i)[0], ways.get(i)[1]) || !p.isOn(ways.get(j)[0], ways.get(j)[1])) {
                        continue;
                    }
                    boolean atPlace = i == j + 1 && p.isAt(ring[i]) || i == n - 1 && j == 0 && p.isAt(ring[0]);
                    if (!atPlace) {
                        return false;
                    }
                }
            }
        }
        return true;
    }

    static long[] flat(long[][] row) {
        long[] numbers = new long[2 * row.length];
        for (int i = 0; i < row.length; i++) {
            numbers[2 * i] = row[i][0];
            numbers[2 * i + 1] = row[i][1];
        }
        return numbers;
    }

    private static boolean doRingsFit(Figure f) {
        int n = f.rows.size();
        int[] lies = new int[n];
        for (Sample p : samples(ways(f))) {
            int on = 0;
            for (int r = 0; r < n; r++) {
                lies[r] = ringLie(f.rows.get(r), p);
                on += lies[r] == BOUNDARY ? 1 : 0;
            }
            if (p.generic && on > 1) {
                return false;
            }
            for (int r = 1; r < n; r++) {
                if (lies[r] != BOUNDARY) {
                    continue;
                }
                if (lies[0] == EXTERIOR) {
                    return false;
                }
                for (int q = 1; q < n; q++) {
                    if (lies[q] == INTERIOR) {
                        return false;
                    }
                }
            }
        }
        return true;
    }

    /** Of how many pieces the interior is: open trapezoids between critical x, joined by gaps in the lines between. */
    static int pieces(Figure f) {
        List<long[][]> ways = ways(f);
        List<Fraction> xs = criticalXs(ways);
        List<int[]> parent = new ArrayList<>();
        int[] gapsBefore = new int[0];
        List<Fraction> ysBefore = new ArrayList<>();
        int count = 0;
        for (int i = 0; i < xs.size(); i++) {
            List<Fraction> ysHere = ysAt(ways, xs.get(i));
            int[] gapsHere = newCells(f, xs.get(i), ysHere, parent);
            if (i > 0) {
                Fraction mid = xs.get(i - 1).middle(xs.get(i));
                List<Fraction> ys = ysAt(ways, mid);
                int[] cells = newCells(f, mid, ys, parent);
                joinAcross(ways, mid, ys, cells, xs.get(i - 1), ysBefore, gapsBefore, parent);
                joinAcross(ways, mid, ys, cells, xs.get(i), ysHere, gapsHere, parent);
            }
            gapsBefore = gapsHere;
            ysBefore = ysHere;
        }
        for (int c = 0; c < parent.size(); c++) {
            count += root(parent, c) == c ? 1 : 0;
        }
        return count;
    }

    /** For each gap between neighbouring ys its cell, if it is of the interior; else -1. */
    private static int[] newCells(Figure f, Fraction x, List<Fraction> ys, List<int[]> parent) {
        int[] cells = new int[Math.max(0, ys.size() - 1)];
        for (int i = 0; i < cells.length; i++) {
            cells[i] = -1;
            if (locate(f, new Sample(x, ys.get(i).middle(ys.get(i + 1)), true)) == INTERIOR) {
                cells[i] = parent.size();
                parent.add(new int[] {parent.size()});
            }
        }
        return cells;
    }

    private static void joinAcross(List<long[][]> ways, Fraction mid, List<Fraction> ys, int[] cells, Fraction x,
            List<Fraction> lineYs, int[] gaps, List<int[]> parent) {
        for (int c = 0; c < cells.length; c++) {
            if (cells[c] < 0) {
                continue;
            }
            Fraction low = heightAt(ways, mid, ys.get(c), x);
            Fraction high = heightAt(ways, mid, ys.get(c + 1), x);
            for (int g = 0; g < gaps.length; g++) {
                if (gaps[g] >= 0 && lineYs.get(g).compareTo(low) >= 0 && lineYs.get(g + 1).compareTo(high) <= 0) {
                    parent.get(root(parent, gaps[g]))[0] = root(parent, cells[c]);
                }
            }
        }
    }

    /** Where the way that is at (mid, y) stands at x. */
    private static Fraction heightAt(List<long[][]> ways, Fraction mid, Fraction y, Fraction x) {
        for (long[][] way : ways) {
            List<long[][]> one = new ArrayList<>();
            one.add(way);
            List<Fraction> at = ysAt(one, mid);
            if (way[0][0] != way[1][0] && at.size() == 1 && at.get(0).compareTo(y) == 0) {
                return ysAt(one, x).get(0);
            }
        }
        throw new IllegalStateException("no way there");
    }

    private static int root(List<int[]> parent, int c) {
        int r = c;
        while (parent.get(r)[0] != r) {
            r = parent.get(r)[0];
        }
        return r;
    }

    /** The square of the distance. */
    static Fraction distance(Figure f, long x, long y) {
        Sample p = new Sample(Fraction.of(x), Fraction.of(y), false);
        if (locate(f, p) != EXTERIOR) {
            return Fraction.of(0);
        }
        Fraction least = null;
        for (long[][] way : ways(f)) {
            Fraction d = wayDistance(way[0], way[1], x, y);
            if (least == null || d.compareTo(least) < 0) {
                least = d;
            }
        }
        return least;
    }

    private static Fraction wayDistance(long[] a, long[] b, long x, long y) {
        BigInteger ex = BigInteger.valueOf(b[0] - a[0]);
        BigInteger ey = BigInteger.valueOf(b[1] - a[1]);
        BigInteger dx = BigInteger.valueOf(x - a[0]);
        BigInteger dy = BigInteger.valueOf(y - a[1]);
        BigInteger length = ex.multiply(ex).add(ey.multiply(ey));
        BigInteger along = ex.multiply(dx).add(ey.multiply(dy));
        if (along.signum() < 0 || length.signum() == 0) {
            along = BigInteger.ZERO;
        }
        if (length.signum() == 0) {
            length = BigInteger.ONE;
        }
        if (along.compareTo(length) > 0) {
            along = length;
        }
        // The nearest point is a + (along / length) (b - a).
        BigInteger rx = dx.multiply(length).subtract(ex.multiply(along));
        BigInteger ry = dy.multiply(length).subtract(ey.multiply(along));
        return new Fraction(rx.multiply(rx).add(ry.multiply(ry)), length.multiply(length));
    }
}
