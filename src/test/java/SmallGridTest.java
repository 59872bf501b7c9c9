import java.util.ArrayList;
import java.util.List;

/** All points, straight lines and triangles of a small grid: nothing is left out between the edges that other tests name. */
public final class SmallGridTest {
    private static final String[] RELATIONS = {"INTERSECTS", "DISJOINT", "TOUCHES", "WITHIN", "CONTAINS"};

    public static void main(String[] args) {
        relations();
        pointsInTriangles();
        windows(lines(4, false), 4);
        windows(lines(4, true), 4);
        windows(triangles(3), 3);
        distances(lines(4, false), 4);
        distances(lines(4, true), 4);
        distances(triangles(3), 3);
        Desk.finish();
    }

    private static List<Figure> points(int grid) {
        List<Figure> all = new ArrayList<>();
        for (int i = 0; i < grid * grid; i++) {
            all.add(new Figure(0, new long[] {i % grid, i / grid}));
        }
        return all;
    }

    private static List<Figure> lines(int grid, boolean back) {
        List<Figure> all = new ArrayList<>();
        for (int i = 0; i < grid * grid; i++) {
            for (int j = i + 1; j < grid * grid; j++) {
                int from = back ? j : i;
                int to = back ? i : j;
                all.add(new Figure(1, new long[] {from % grid, from / grid, to % grid, to / grid}));
            }
        }
        return all;
    }

    private static long side(long[] a, long[] b, long x, long y) {
        return (b[0] - a[0]) * (y - a[1]) - (b[1] - a[1]) * (x - a[0]);
    }

    /** Each once, some of them clockwise and some not, begun at any corner. */
    private static List<Figure> triangles(int grid) {
        List<Figure> all = new ArrayList<>();
        int cells = grid * grid;
        for (int i = 0; i < cells; i++) {
            for (int j = i + 1; j < cells; j++) {
                for (int k = j + 1; k < cells; k++) {
                    long[][] p = {{i % grid, i / grid}, {j % grid, j / grid}, {k % grid, k / grid}};
                    if (side(p[0], p[1], p[2][0], p[2][1]) != 0) {
                        int first = (i + j + k) % 3;
                        int step = (i + k) % 2 + 1;
                        long[][] q = {p[first], p[(first + step) % 3], p[(first + 2 * step) % 3], p[first]};
                        all.add(new Figure(2, Oracle.flat(q)));
                    }
                }
            }
        }
        return all;
    }

    /** Adds the figures with ids from 1 on, and answers the base. */
    private static Desk deskOf(List<Figure> figures) {
        Desk desk = new Desk();
        StringBuilder text = new StringBuilder();
        for (int i = 0; i < figures.size(); i++) {
            text.append("ADD ").append(i + 1).append(" ").append(figures.get(i).text()).append(";");
        }
        desk.sayLong(text.toString());
        Desk.due("live", desk.base.live(), figures.size());
        return desk;
    }

    private static int[] answers(List<Integer> found) {
        int[] ints = new int[2 + found.size()];
        ints[1] = found.size();
        for (int i = 0; i < found.size(); i++) {
            ints[2 + i] = found.get(i);
        }
        return ints;
    }

    /** Of all pairs; one base is asked for all of them, so that no answer may hang on the ones ahead. */
    private static void relations() {
        List<Figure> all = points(3);
        all.addAll(lines(3, false));
        all.addAll(triangles(3));
        Desk desk = deskOf(all);
        for (int j = 0; j < all.size(); j++) {
            List<List<Integer>> found = new ArrayList<>();
            for (int rel = 0; rel < 5; rel++) {
                found.add(new ArrayList<>());
            }
            for (int i = 0; i < all.size(); i++) {
                int bits = Oracle.relations(all.get(i), all.get(j));
                for (int rel = 0; rel < 5; rel++) {
                    if ((bits >> rel & 1) == 1) {
                        found.get(rel).add(i + 1);
                    }
                }
            }
            for (int rel = 0; rel < 5; rel++) {
                desk.dueInts("FIND " + RELATIONS[rel] + " " + all.get(j).text() + ";", answers(found.get(rel)));
            }
        }
    }

    /** Of a greater grid, by the sides alone. */
    private static void pointsInTriangles() {
        List<Figure> points = points(5);
        Desk desk = deskOf(points);
        for (Figure triangle : triangles(4)) {
            long[][] p = triangle.rows.get(0);
            List<Integer> inside = new ArrayList<>();
            List<Integer> on = new ArrayList<>();
            for (int i = 0; i < points.size(); i++) {
                long x = i % 5;
                long y = i / 5;
                long turn = Long.signum(side(p[0], p[1], p[2][0], p[2][1]));
                long least = Math.min(Math.min(turn * side(p[0], p[1], x, y), turn * side(p[1], p[2], x, y)), turn * side(p[2], p[3], x, y));
                if (least >= 0) {
                    (least > 0 ? inside : on).add(i + 1);
                }
            }
            desk.dueInts("FIND WITHIN " + triangle.text() + ";", answers(inside));
            desk.dueInts("FIND TOUCHES " + triangle.text() + ";", answers(on));
        }
    }

    private static void windows(List<Figure> figures, int grid) {
        Desk desk = deskOf(figures);
        for (int x1 = -1; x1 <= grid; x1++) {
            for (int y1 = -1; y1 <= grid; y1++) {
                for (int x2 = x1; x2 <= grid; x2++) {
                    for (int y2 = y1; y2 <= grid; y2++) {
                        List<Integer> found = new ArrayList<>();
                        for (int i = 0; i < figures.size(); i++) {
                            if (Oracle.isInWindow(figures.get(i), x1, y1, x2, y2)) {
                                found.add(i + 1);
                            }
                        }
                        desk.dueInts("WINDOW " + x1 + " " + y1 + " " + x2 + " " + y2 + ";", answers(found));
                    }
                }
            }
        }
    }

    private static void distances(List<Figure> figures, int grid) {
        Desk desk = deskOf(figures);
        for (int x = -1; x <= grid; x++) {
            for (int y = -1; y <= grid; y++) {
                List<Oracle.Fraction> squares = new ArrayList<>();
                List<Integer> order = new ArrayList<>();
                for (int i = 0; i < figures.size(); i++) {
                    squares.add(Oracle.distance(figures.get(i), x, y));
                    order.add(i + 1);
                }
                order.sort((a, b) -> squares.get(a - 1).compareTo(squares.get(b - 1)));
                desk.dueInts("NEAR 200 " + x + " " + y + ";", answers(order));
            }
        }
    }
}
