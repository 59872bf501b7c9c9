import java.util.ArrayList;
import java.util.Arrays;
import java.util.List;

/**
 * Validity, relations, windows and distances of drawn figures against the oracle. Arguments, for longer
 * runs by hand: the first seed, how many rounds, how many places the longest figures have.
 */
public final class GeometryTest {
    private static final String[] RELATIONS = {"INTERSECTS", "DISJOINT", "TOUCHES", "WITHIN", "CONTAINS"};
    private static int longest;
    private static int valid = 0;
    private static int pairs = 0;
    private static final int[] holding = new int[5];

    public static void main(String[] args) {
        int first = args.length > 0 ? Integer.parseInt(args[0]) : 1;
        int rounds = args.length > 1 ? Integer.parseInt(args[1]) : 56;
        for (int seed = first; seed < first + rounds; seed++) {
            FigureMaker maker = new FigureMaker(seed);
            longest = args.length > 2 ? Integer.parseInt(args[2]) : 14;
            round(maker, seed % 7);
        }
        System.out.println(valid + " valid figures, " + pairs + " pairs, relations " + Arrays.toString(holding));
        Desk.finish();
    }

    private static final int MAPPED = 2;
    private static final int WIDE = 3;
    private static final int LONG = 4;
    private static final int CELLS = 5;
    private static final int MAPPED_CELLS = 6;

    private static Figure draw(FigureMaker maker, int mode, int grid) {
        if (mode == WIDE) {
            return maker.wideFigure();
        }
        if (mode >= CELLS) {
            return maker.cellFigure(grid);
        }
        return mode == LONG ? maker.longFigure(grid, 6 + maker.below(longest - 6)) : maker.figure(grid);
    }

    /** Mode 0, 1: as drawn on the grid; MAPPED to great numbers; WIDE: of great numbers; LONG: of many places; CELLS: of ways along a grid. */
    private static void round(FigureMaker maker, int mode) {
        int grid = mode == 1 ? 9 : mode == LONG ? 8 + maker.below(20) : 4 + maker.below(4);
        int wanted = mode == LONG ? 5 : 14;
        long[] map = mode == MAPPED || mode == MAPPED_CELLS ? maker.map(grid) : new long[] {1, 0, 0, 0, 1, 0};
        Desk desk = new Desk();
        List<Figure> drawn = new ArrayList<>();
        List<Figure> kept = new ArrayList<>();
        for (int i = 0; i < 40 && drawn.size() < wanted; i++) {
            Figure plain = draw(maker, mode, grid);
            Figure mapped = plain.mapped(map);
            if (mapped.size() > 40 || mapped.rows.size() > 8) {
                continue;
            }
            boolean isValid = Oracle.isValid(plain);
            String text = "ADD " + (drawn.size() + 1) + " " + mapped.text() + ";";
            desk.dueInts(text, isValid ? 0 : 3);
            if (isValid) {
                valid++;
                drawn.add(plain);
                kept.add(mapped);
            }
        }
        checkRelations(desk, drawn, kept);
        for (int i = 0; i < 6; i++) {
            long x = mode == WIDE ? maker.wide(0) : maker.below(grid + 2) - 1;
            long y = mode == WIDE ? maker.wide(0) : maker.below(grid + 2) - 1;
            long px = map[0] * x + map[1] * y + map[2];
            long py = map[3] * x + map[4] * y + map[5];
            checkDistances(desk, kept, px, py);
            long qx = mode == WIDE ? maker.wide(px) : px + maker.below(3);
            long qy = mode == WIDE ? maker.wide(py) : py + maker.below(3);
            checkWindow(desk, kept, new long[] {Math.min(px, qx), Math.min(py, qy), Math.max(px, qx), Math.max(py, qy)});
        }
    }

    private static void checkRelations(Desk desk, List<Figure> drawn, List<Figure> kept) {
        int n = drawn.size();
        int[] found = new int[n * n];
        for (int i = 0; i < n; i++) {
            for (int j = 0; j < n; j++) {
                int bits = Oracle.relations(drawn.get(i), drawn.get(j));
                found[i * n + j] = bits;
                pairs++;
                for (int rel = 0; rel < 5; rel++) {
                    holding[rel] += bits >> rel & 1;
                    Desk.due(RELATIONS[rel] + " of " + kept.get(i).text() + " and " + kept.get(j).text(),
                        desk.base.relate(rel, i + 1, j + 1), bits >> rel & 1);
                }
            }
        }
        for (int rel = 0; rel < 5; rel++) {
            desk.dueInts("JOIN " + RELATIONS[rel] + " 1 40 1 40;", joined(found, n, rel));
            for (int j = 0; j < n; j += 4) {
                desk.dueInts("FIND " + RELATIONS[rel] + " " + kept.get(j).text() + ";", matching(found, n, rel, j));
            }
        }
    }

    private static int[] joined(int[] found, int n, int rel) {
        List<Integer> ints = new ArrayList<>(List.of(0, 0));
        for (int i = 0; i < n * n; i++) {
            if (i / n != i % n && (found[i] >> rel & 1) == 1) {
                ints.add(i / n + 1);
                ints.add(i % n + 1);
            }
        }
        ints.set(1, ints.size() / 2 - 1);
        return toArray(ints);
    }

    private static int[] matching(int[] found, int n, int rel, int j) {
        List<Integer> ints = new ArrayList<>(List.of(0, 0));
        for (int i = 0; i < n; i++) {
            if ((found[i * n + j] >> rel & 1) == 1) {
                ints.add(i + 1);
            }
        }
        ints.set(1, ints.size() - 2);
        return toArray(ints);
    }

    private static int[] toArray(List<Integer> ints) {
        return ints.stream().mapToInt(Integer::intValue).toArray();
    }

    private static void checkDistances(Desk desk, List<Figure> kept, long x, long y) {
        int n = kept.size();
        List<Oracle.Fraction> squares = new ArrayList<>();
        List<Integer> order = new ArrayList<>();
        for (int i = 0; i < n; i++) {
            squares.add(Oracle.distance(kept.get(i), x, y));
            order.add(i);
        }
        order.sort((a, b) -> squares.get(a).compareTo(squares.get(b)));
        for (int k = 1; k <= n + 1; k += 4) {
            int[] want = new int[2 + Math.min(k, n)];
            want[1] = Math.min(k, n);
            for (int i = 0; i < want[1]; i++) {
                want[2 + i] = order.get(i) + 1;
            }
            desk.dueInts("NEAR " + k + " " + x + " " + y + ";", want);
        }
        for (int i = 0; i < n; i++) {
            for (int j = 0; j < n; j += 3) {
                Desk.due("nearer to " + x + " " + y + ": " + kept.get(i).text() + " and " + kept.get(j).text(),
                    desk.base.nearer(i + 1, j + 1, (int) x, (int) y), squares.get(i).compareTo(squares.get(j)));
            }
        }
    }

    private static void checkWindow(Desk desk, List<Figure> kept, long[] w) {
        List<Integer> ints = new ArrayList<>(List.of(0, 0));
        for (int i = 0; i < kept.size(); i++) {
            if (Oracle.isInWindow(kept.get(i), w[0], w[1], w[2], w[3])) {
                ints.add(i + 1);
            }
        }
        ints.set(1, ints.size() - 2);
        desk.dueInts("WINDOW " + w[0] + " " + w[1] + " " + w[2] + " " + w[3] + ";", toArray(ints));
    }
}
