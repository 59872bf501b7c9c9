import java.util.Random;

/**
 * Runs of calls on a base and on the model side by side: texts right and wrong, transactions, full logs,
 * failing power. Arguments, for longer runs by hand: the first seed, how many runs.
 */
public final class ModelTest {
    private static final String[] RELATIONS = {"INTERSECTS", "DISJOINT", "TOUCHES", "WITHIN", "CONTAINS"};
    private static final String[] FILLS = {"POINTS", "LINES", "SQUARES"};
    private static final int[] EDGES = {0, -1, 1, 9999, 10000, 1073741823, -1073741823, 1000000000, 1000000001, 63, 64, 200, 201};

    private final Random random;
    private final FigureMaker maker;
    private final Desk desk = new Desk();
    private final Model model = new Model();
    private final int style;
    private final int mostId;
    private final int grid;
    private String tape = "";
    private static int falls = 0;
    private static int savesSeen = 0;
    private static int wrongsSeen = 0;
    private static final int[] codes = new int[8];

    private ModelTest(int seed) {
        random = new Random(seed);
        maker = new FigureMaker(seed);
        style = seed % 4;
        mostId = 4 + random.nextInt(style == 1 ? 300 : 12);
        grid = 5 + random.nextInt(5);
    }

    public static void main(String[] args) {
        int first = args.length > 0 ? Integer.parseInt(args[0]) : 1;
        int runs = args.length > 1 ? Integer.parseInt(args[1]) : 80;
        for (int seed = first; seed < first + runs; seed++) {
            int before = Desk.wrongs;
            new ModelTest(seed).play(90);
            if (Desk.wrongs != before) {
                System.out.println("in the run of seed " + seed);
            }
        }
        System.out.println(falls + " falls, " + savesSeen + " saves, " + wrongsSeen + " wrong texts, codes " + java.util.Arrays.toString(codes));
        Desk.finish();
    }

    private int below(int n) {
        return random.nextInt(n);
    }

    private void play(int calls) {
        for (int i = 0; i < calls; i++) {
            switch (below(12)) {
                case 0:
                    int kind = below(9) == 0 ? below(5) - 2 : below(2);
                    int n = below(9) == 0 ? below(3) * 500 : 1 + below(6);
                    int t = below(9) == 0 ? below(4) * 100 - 100 : below(201);
                    Desk.due("crash", desk.base.crash(kind, n, t), model.crash(kind, n, t));
                    break;
                case 1:
                    if (model.down || below(4) == 0) {
                        Desk.due("recover", desk.base.recover(), model.recover());
                    }
                    break;
                default:
                    feedSome();
                    if (below(5) > 0) {
                        runBoth();
                    }
                    break;
            }
            compareState();
        }
        savesSeen += model.saves;
    }

    private void runBoth() {
        String text = tape;
        boolean wasDown = model.down;
        int want = model.run(tape);
        Desk.due("run() of " + text, desk.base.run(), want);
        if (!wasDown) {
            tape = "";
            falls += model.down ? 1 : 0;
            wrongsSeen += model.wrong >= 0 ? 1 : 0;
        }
        Desk.due("wrong() of " + text, desk.base.wrong(), model.wrong);
        if (!wasDown) {
            desk.dueOut(text, model.ints.stream().mapToInt(Integer::intValue).toArray());
            if (!model.ints.isEmpty() && model.ints.get(model.ints.size() - 1) < 8 && model.ints.get(model.ints.size() - 1) >= 0) {
                codes[model.ints.get(model.ints.size() - 1)]++;
            }
        }
        Desk.due("out beyond", desk.base.out(model.ints.size()), 0);
    }

    private void feedSome() {
        int statements = 1 + below(style == 1 ? 5 : 14);
        StringBuilder text = new StringBuilder();
        for (int i = 0; i < statements; i++) {
            text.append(statement());
        }
        if (style == 2 && below(3) == 0) {
            spoil(text);
        }
        String all = text.toString();
        for (int from = 0; from < all.length(); from += 40) {
            int n = Math.min(40, all.length() - from);
            int length = desk.type(all.substring(from, from + n));
            if (tape.length() + 40 > 4000) {
                Desk.due("feed of a full tape", length, -1);
                // The row that did not come may have been cut by end().
                tape = tape.substring(0, Math.max(0, Math.min(tape.length(), tapeLength())));
                return;
            }
            tape += all.substring(from, from + n);
            Desk.due("feed or end", length, tape.length());
        }
    }

    private int tapeLength() {
        return desk.base.end(40);
    }

    private void spoil(StringBuilder text) {
        for (int i = 0; i <= below(2); i++) {
            int at = below(text.length());
            String signs = " \n(),;-0AZ9?a\u0000\u00ff\t";
            char c = signs.charAt(below(signs.length()));
            switch (below(4)) {
                case 0:
                    text.deleteCharAt(at);
                    break;
                case 1:
                    text.insert(at, c);
                    break;
                case 2:
                    text.setLength(Math.max(1, at));
                    break;
                default:
                    text.setCharAt(at, c);
                    break;
            }
            if (text.length() == 0) {
                text.append(';');
            }
        }
    }

    private int id() {
        return below(25) == 0 ? EDGES[below(EDGES.length)] : 1 + below(mostId);
    }

    private int place() {
        return below(style == 3 ? 10 : 60) == 0 ? EDGES[below(EDGES.length)] : below(grid + 2) - 1;
    }

    private String blank() {
        return below(4) > 0 ? " " : below(2) == 0 ? "\n" : "  ";
    }

    private String statement() {
        int what = below(style == 1 ? 40 : 30);
        String text = what < 8 ? "ADD" + blank() + id() + blank() + figure()
            : what < 12 ? "DROP " + id()
            : what < 15 ? "MOVE " + id() + " " + place() + blank() + place()
            : what < 17 || what >= 30 ? fill()
            : what < 19 ? "BEGIN"
            : what < 21 ? "COMMIT"
            : what < 22 ? "ABORT"
            : what < 23 ? "PACK"
            : what < 24 ? "SAVE"
            : question();
        return text + (below(5) == 0 ? blank() : "") + ";" + (below(5) == 0 ? blank() : "");
    }

    private String figure() {
        Figure f = below(style == 0 ? 30 : 200) == 0 ? large() : maker.figure(grid);
        return f.text();
    }

    private Figure large() {
        int n = 38 + below(6);
        long[] numbers = new long[2 * n];
        for (int i = 0; i < n; i++) {
            numbers[2 * i] = i;
            numbers[2 * i + 1] = i % 2;
        }
        if (below(2) == 0) {
            return new Figure(1, numbers);
        }
        long[][] rows = new long[6 + below(4)][];
        for (int r = 0; r < rows.length; r++) {
            int x = 2 * r;
            rows[r] = r == 0 ? new long[] {0, 0, 30, 0, 30, 30, 0, 30, 0, 0} : new long[] {x, 1, x + 1, 1, x + 1, 2, x, 1};
        }
        return new Figure(2, rows);
    }

    private String fill() {
        int w = below(8) == 0 ? EDGES[below(EDGES.length)] : 1 + below(grid * 3);
        int k = below(8) == 0 ? EDGES[below(EDGES.length)] : 1 + below(style == 1 ? 100 : 6);
        return "FILL " + id() + " " + k + " " + FILLS[style == 1 ? 0 : below(3)] + " " + place() + " " + place() + " " + w + " "
            + (below(3) == 0 ? place() : random.nextInt() >> 2);
    }

    private String question() {
        String relation = RELATIONS[below(5)];
        int a = id();
        int c = id();
        switch (below(4)) {
            case 0:
                return "FIND " + relation + " " + figure();
            case 1:
                int x = place();
                int y = place();
                return "WINDOW " + x + " " + y + " " + (below(3) == 0 ? place() : x) + " " + (y < 1000 ? y + 2 : y);
            case 2:
                return "NEAR " + (below(6) == 0 ? EDGES[below(EDGES.length)] : 1 + below(7)) + " " + place() + " " + place();
            default:
                int b = a < 100000 ? a + below(66) : a;
                int d = c < 100000 ? c + 63 : c;
                return "JOIN " + (style == 1 ? "DISJOINT" : relation) + " " + a + " " + b + " " + c + " " + d;
        }
    }

    private void compareState() {
        LandBase base = desk.base;
        boolean down = model.down;
        Desk.due("isDown", base.isDown(), down);
        Desk.due("isOpen", base.isOpen(), model.open && !down);
        Desk.due("live", base.live(), down ? -1 : model.live.size());
        Desk.due("used", base.used(), down ? -1 : model.used);
        Desk.due("saves", base.saves(), model.saves);
        Desk.due("flaws", base.flaws(), 0);
        int index = 0;
        for (int id : model.live.keySet()) {
            Figure f = model.live.get(id);
            Desk.due("idAt", base.idAt(index), down ? -1 : id);
            Desk.due("kindOf", base.kindOf(id), down ? -1 : f.kind);
            Desk.due("places", base.places(id), down ? -1 : f.size());
            Desk.due("rings", base.rings(id), down ? -1 : f.rows.size());
            int i = 0;
            for (long[][] row : f.rows) {
                for (long[] p : row) {
                    Desk.due("at x", base.at(id, i, 0), down ? 0 : p[0]);
                    Desk.due("at y", base.at(id, i, 1), down ? 0 : p[1]);
                    i++;
                }
            }
            Desk.due("at behind", base.at(id, i, 0), 0);
            index++;
        }
        Desk.due("idAt behind", base.idAt(index), -1);
    }
}
