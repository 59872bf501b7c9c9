import java.util.ArrayList;
import java.util.List;

/**
 * Polygons with many holes that touch, and what is kin to them (their shells, holes, rings, fewer holes),
 * against the oracle. Arguments, for longer runs by hand: the first seed, how many rounds.
 */
public final class HolesTest {
    private static int valid = 0;
    private static int torn = 0;
    private static int pairs = 0;

    public static void main(String[] args) {
        int first = args.length > 0 ? Integer.parseInt(args[0]) : 1;
        int rounds = args.length > 1 ? Integer.parseInt(args[1]) : 30;
        for (int seed = first; seed < first + rounds; seed++) {
            round(new FigureMaker(seed));
        }
        System.out.println(valid + " valid, " + torn + " of more than one piece, " + pairs + " pairs of kin");
        Desk.finish();
    }

    private static void round(FigureMaker maker) {
        Desk desk = new Desk();
        for (int tries = 0; tries < 12; tries++) {
            Figure f = grown(maker, 5 + maker.below(4));
            long[] map = maker.below(2) == 0 ? maker.map(9) : new long[] {1, 0, -3, 0, 1, 5};
            boolean isValid = Oracle.isValid(f);
            desk.dueInts("FIND INTERSECTS " + f.mapped(map).text() + ";", isValid ? new int[] {0, 0} : new int[] {3});
            if (isValid) {
                valid++;
                compareKin(maker, f, map);
            } else if (f.rows.size() > 1 && Oracle.pieces(f) > 1) {
                torn++;
            }
        }
    }

    /** Holes are added one by one, and kept if they fit, so that it is valid but for the last one, if at all. */
    private static Figure grown(FigureMaker maker, int grid) {
        long g = grid - 1;
        Figure f = new Figure(2, maker.below(3) == 0 ? new long[] {0, g / 2, g / 2, 0, g, g / 2, g / 2, g, 0, g / 2}
            : new long[] {0, 0, g, 0, g, g, 0, g, 0, 0});
        int wanted = 1 + maker.below(6);
        for (int tries = 0; tries < 25 && f.rows.size() <= wanted; tries++) {
            Figure more = new Figure(2);
            more.rows.addAll(f.rows);
            more.rows.add(hole(maker, grid));
            boolean isGood = Oracle.isValid(more);
            if (more.size() <= 40 && (isGood || tries > 20)) {
                f = more;
                if (!isGood) {
                    break;
                }
            }
        }
        return f;
    }

    private static long[][] hole(FigureMaker maker, int grid) {
        int x = maker.below(grid - 1);
        int y = maker.below(grid - 1);
        long[][] places = new long[3][];
        for (int i = 0; i < 3; i++) {
            places[i] = new long[] {Math.min(grid - 1, x + maker.below(3)), Math.min(grid - 1, y + maker.below(3))};
        }
        return new long[][] {places[0], places[1], places[2], places[0]};
    }

    private static void compareKin(FigureMaker maker, Figure f, long[] map) {
        List<Figure> kin = new ArrayList<>();
        kin.add(f);
        for (long[][] ring : f.rows) {
            kin.add(new Figure(2, Oracle.flat(ring)));
            kin.add(new Figure(1, Oracle.flat(ring)));
        }
        for (int i = 0; i < 3; i++) {
            Figure fewer = new Figure(2);
            for (long[][] ring : f.rows) {
                if (fewer.rows.isEmpty() || maker.below(2) == 0) {
                    fewer.rows.add(ring);
                }
            }
            kin.add(turned(fewer));
        }
        Desk desk = new Desk();
        for (int i = 0; i < kin.size(); i++) {
            desk.dueInts("ADD " + (i + 1) + kin.get(i).mapped(map).text() + ";", 0);
        }
        for (int n = 0; n < 30; n++) {
            int i = maker.below(kin.size());
            int j = maker.below(2) == 0 ? 0 : maker.below(kin.size());
            int bits = Oracle.relations(kin.get(i), kin.get(j));
            pairs++;
            for (int rel = 0; rel < 5; rel++) {
                Desk.due("relation " + rel + " of " + kin.get(i).text() + " and " + kin.get(j).text(),
                    desk.base.relate(rel, i + 1, j + 1), bits >> rel & 1);
            }
        }
    }

    /** The same points, each ring begun elsewhere and gone the other way round. */
    private static Figure turned(Figure f) {
        Figure other = new Figure(f.kind);
        for (long[][] ring : f.rows) {
            int n = ring.length - 1;
            long[][] back = new long[n + 1][];
            for (int i = 0; i <= n; i++) {
                back[i] = ring[(2 * n + 1 - i) % n];
            }
            other.rows.add(back);
        }
        return other;
    }
}
