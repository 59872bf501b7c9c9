import java.util.ArrayList;
import java.util.HashMap;
import java.util.List;
import java.util.Map;
import java.util.TreeMap;
import java.util.regex.Matcher;
import java.util.regex.Pattern;

/** What a base should answer, told plainly: tokens by regular expressions, shapes by the oracle, power by counting. */
final class Model {
    private static final Pattern TOKEN = Pattern.compile("[ \\n]*(?:([A-Z]+)|(-?[0-9]+)|(.|\\s)|$)", Pattern.DOTALL);
    private static final String ROW = "\\(nn(?:,nn)*+\\)";
    private static final String SHAPE = "(?:p\\(nn\\)|l" + ROW + "|g\\(" + ROW + "(?:," + ROW + ")*+\\))";
    private static final Pattern TEXT = Pattern.compile("(?:An" + SHAPE + ";|Dn;|Mnnn;|FnnKnnnn;|[BCXPS];|QR" + SHAPE
        + ";|Wnnnn;|Nnnn;|JRnnnn;)*+");
    private static final Map<String, Character> WORDS = new HashMap<>();
    private static final List<String> RELATIONS = List.of("INTERSECTS", "DISJOINT", "TOUCHES", "WITHIN", "CONTAINS");

    static {
        String[] words = {"ADD", "DROP", "MOVE", "FILL", "BEGIN", "COMMIT", "ABORT", "PACK", "SAVE", "FIND", "WINDOW", "NEAR",
            "JOIN", "POINT", "LINESTRING", "POLYGON"};
        for (int i = 0; i < words.length; i++) {
            WORDS.put(words[i], "ADMFBCXPSQWNJplg".charAt(i));
        }
        for (String kind : new String[] {"POINTS", "LINES", "SQUARES"}) {
            WORDS.put(kind, 'K');
        }
        for (String relation : RELATIONS) {
            WORDS.put(relation, 'R');
        }
    }

    TreeMap<Integer, Figure> live = new TreeMap<>();
    TreeMap<Integer, Figure> committed = new TreeMap<>();
    boolean open = false;
    boolean down = false;
    int bytes = 0;
    int used = 0;
    int saves = 0;
    int crashKind = -1;
    int crashLeft = 0;
    int wrong = -1;
    List<Integer> ints = new ArrayList<>();

    int run(String tape) {
        if (down) {
            return -1;
        }
        ints = new ArrayList<>();
        wrong = -1;
        List<String> tokens = new ArrayList<>();
        List<Integer> starts = new ArrayList<>();
        String signs = tokenize(tape, tokens, starts);
        int good = viable(signs);
        if (good < signs.length()) {
            wrong = starts.get(good);
        } else if (!TEXT.matcher(signs).matches()) {
            wrong = tape.length();
        }
        int done = 0;
        int from = 0;
        for (int i = 0; i < good; i++) {
            if (signs.charAt(i) != ';') {
                continue;
            }
            if (!statement(tokens.subList(from, i + 1))) {
                wrong = -1;
                break;
            }
            done++;
            from = i + 1;
        }
        return done;
    }

    private static String tokenize(String tape, List<String> tokens, List<Integer> starts) {
        StringBuilder signs = new StringBuilder();
        Matcher m = TOKEN.matcher(tape);
        while (m.lookingAt() && m.regionStart() < tape.length()) {
            String token = m.group(1) != null ? m.group(1) : m.group(2) != null ? m.group(2) : m.group(3);
            if (token != null) {
                starts.add(m.end() - token.length());
                tokens.add(token);
                signs.append(signOf(token, m));
            }
            m.region(m.end(), tape.length());
        }
        return signs.toString();
    }

    private static char signOf(String token, Matcher m) {
        if (m.group(1) != null) {
            return WORDS.getOrDefault(token, '?');
        }
        if (m.group(2) != null) {
            int digits = token.startsWith("-") ? token.length() - 1 : token.length();
            return digits <= 10 && Math.abs(Long.parseLong(token)) <= 1073741823L ? 'n' : '?';
        }
        return "(),;".contains(token) ? token.charAt(0) : '?';
    }

    /** How many tokens from the first one on may begin a text. */
    private static int viable(String signs) {
        for (int n = 1; n <= signs.length(); n++) {
            Matcher m = TEXT.matcher(signs.substring(0, n));
            if (!m.matches() && !m.hitEnd()) {
                return n - 1;
            }
        }
        return signs.length();
    }

    private static int number(List<String> t, int i) {
        return Integer.parseInt(t.get(i));
    }

    /** False if the power fails in it. */
    private boolean statement(List<String> t) {
        List<Integer> answers = new ArrayList<>();
        int code;
        boolean question = false;
        switch (t.get(0)) {
            case "ADD":
                code = add(number(t, 1), figure(t, 2));
                break;
            case "DROP":
                code = drop(number(t, 1));
                break;
            case "MOVE":
                code = move(number(t, 1), number(t, 2), number(t, 3));
                break;
            case "FILL":
                code = fill(t);
                break;
            case "BEGIN":
                code = open ? 6 : 0;
                bytes = open ? bytes : 0;
                open = true;
                break;
            case "COMMIT":
                code = open ? commit(bytes) : 6;
                open = false;
                break;
            case "ABORT":
                code = open ? 0 : 6;
                live = open ? new TreeMap<>(committed) : live;
                open = false;
                break;
            case "PACK":
                code = 0;
                break;
            case "SAVE":
                code = open ? 6 : save();
                break;
            default:
                question = true;
                code = ask(t, answers);
                break;
        }
        if (code == 99) {
            down = true;
            return false;
        }
        int n = t.get(0).equals("JOIN") ? answers.size() / 2 : answers.size();
        if (question && code == 0 && ints.size() + 2 + answers.size() > 19000) {
            code = 7;
        }
        ints.add(code);
        if (question && code == 0) {
            ints.add(n);
            ints.addAll(answers);
        }
        return true;
    }

    private int ask(List<String> t, List<Integer> answers) {
        switch (t.get(0)) {
            case "FIND":
                return find(RELATIONS.indexOf(t.get(1)), figure(t, 2), answers);
            case "WINDOW":
                return window(number(t, 1), number(t, 2), number(t, 3), number(t, 4), answers);
            case "NEAR":
                return near(number(t, 1), number(t, 2), number(t, 3), answers);
            default:
                return join(RELATIONS.indexOf(t.get(1)), number(t, 2), number(t, 3), number(t, 4), number(t, 5), answers);
        }
    }

    private static Figure figure(List<String> t, int from) {
        int kind = t.get(from).equals("POINT") ? 0 : t.get(from).equals("LINESTRING") ? 1 : 2;
        List<long[]> rows = new ArrayList<>();
        List<Long> row = new ArrayList<>();
        for (int i = from + 1; i < t.size(); i++) {
            if (t.get(i).equals(")") && !row.isEmpty()) {
                rows.add(row.stream().mapToLong(Long::longValue).toArray());
                row.clear();
            } else if (t.get(i).matches("-?[0-9]+")) {
                row.add(Long.parseLong(t.get(i)));
            }
        }
        return new Figure(kind, rows.toArray(new long[0][]));
    }

    private static boolean isTooLarge(Figure f) {
        return f.size() > 40 || f.rows.size() > 8;
    }

    private boolean lacksRoom(int more) {
        return open && bytes + more > 14112;
    }

    private int settle(int more) {
        if (!open) {
            return commit(more);
        }
        bytes += more;
        return 0;
    }

    private int commit(int count) {
        int blocks = (count + 223) / 224 + 1;
        if (used + blocks > 64) {
            return save();
        }
        for (int i = 0; i < blocks; i++) {
            if (crashKind == 0 && --crashLeft == 0) {
                return 99;
            }
        }
        used += blocks;
        committed = new TreeMap<>(live);
        return 0;
    }

    private int save() {
        if (crashKind == 1) {
            return 99;
        }
        saves++;
        used = 0;
        committed = new TreeMap<>(live);
        return 0;
    }

    int recover() {
        live = new TreeMap<>(committed);
        open = false;
        down = false;
        crashKind = -1;
        return live.size();
    }

    boolean crash(int kind, int n, int t) {
        if (down || kind < 0 || kind > 1 || n < 1 || n > 1000 || t < 0 || t > 200) {
            return false;
        }
        crashKind = kind;
        crashLeft = n;
        return true;
    }

    private int add(int id, Figure f) {
        if (id < 1 || id > 9999) {
            return 5;
        }
        if (live.containsKey(id)) {
            return 1;
        }
        if (isTooLarge(f)) {
            return 4;
        }
        if (!Oracle.isValid(f)) {
            return 3;
        }
        int cost = 16 + 4 * f.rows.size() + 8 * f.size();
        if (live.size() == 200 || lacksRoom(cost)) {
            return 4;
        }
        live.put(id, f);
        return settle(cost);
    }

    private int drop(int id) {
        if (!live.containsKey(id)) {
            return 2;
        }
        if (lacksRoom(8)) {
            return 4;
        }
        live.remove(id);
        return settle(8);
    }

    private int move(int id, int dx, int dy) {
        if (!live.containsKey(id)) {
            return 2;
        }
        Figure moved = live.get(id).mapped(new long[] {1, 0, dx, 0, 1, dy});
        for (long[][] row : moved.rows) {
            for (long[] place : row) {
                if (Math.abs(place[0]) > 1073741823L || Math.abs(place[1]) > 1073741823L) {
                    return 5;
                }
            }
        }
        if (lacksRoom(16)) {
            return 4;
        }
        live.put(id, moved);
        return settle(16);
    }

    private int seed;

    private int draw(long n) {
        seed = seed * 1103515245 + 12345;
        long bits = (seed & 0xFFFFFFFFL) / 256;
        return (int) (bits % n);
    }

    private int fill(List<String> t) {
        long id = number(t, 1);
        long k = number(t, 2);
        long x = number(t, 4);
        long y = number(t, 5);
        long w = number(t, 6);
        long most = 1073741823L;
        if (id < 1 || k < 1 || k > 100 || id + k - 1 > 9999 || w < 1 || w > 1000000000L
            || x + w + w / 16 + 1 > most || y + w + w / 16 + 1 > most) {
            return 5;
        }
        for (int i = 0; i < k; i++) {
            if (live.containsKey((int) id + i)) {
                return 1;
            }
        }
        if (live.size() + k > 200 || lacksRoom(32)) {
            return 4;
        }
        seed = number(t, 7);
        for (int i = 0; i < k; i++) {
            long px = x + draw(w);
            long py = y + draw(w);
            Figure f;
            if (t.get(3).equals("POINTS")) {
                f = new Figure(0, new long[] {px, py});
            } else if (t.get(3).equals("LINES")) {
                long c = draw(w / 16 + 1);
                long d = draw(w / 16 + 1);
                f = new Figure(1, new long[] {px, py, px + c + 1, py + d});
            } else {
                long e = draw(w / 16 + 1) + 1;
                f = new Figure(2, new long[] {px, py, px + e, py, px + e, py + e, px, py + e, px, py});
            }
            live.put((int) id + i, f);
        }
        return settle(32);
    }

    static boolean related(int rel, Figure a, Figure b) {
        if (a.kind == 0 && b.kind == 0) {
            boolean same = a.rows.get(0)[0][0] == b.rows.get(0)[0][0] && a.rows.get(0)[0][1] == b.rows.get(0)[0][1];
            return rel == 1 ? !same : rel != 2 && same;
        }
        return (Oracle.relations(a, b) >> rel & 1) == 1;
    }

    private int find(int rel, Figure f, List<Integer> answers) {
        if (isTooLarge(f)) {
            return 4;
        }
        if (!Oracle.isValid(f)) {
            return 3;
        }
        live.forEach((id, other) -> {
            if (related(rel, other, f)) {
                answers.add(id);
            }
        });
        return 0;
    }

    private int window(int x1, int y1, int x2, int y2, List<Integer> answers) {
        if (x2 < x1 || y2 < y1) {
            return 5;
        }
        live.forEach((id, f) -> {
            if (Oracle.isInWindow(f, x1, y1, x2, y2)) {
                answers.add(id);
            }
        });
        return 0;
    }

    private int near(int k, int x, int y, List<Integer> answers) {
        if (k < 1 || k > 200) {
            return 5;
        }
        Map<Integer, Oracle.Fraction> squares = new HashMap<>();
        live.forEach((id, f) -> squares.put(id, Oracle.distance(f, x, y)));
        List<Integer> ids = new ArrayList<>(live.keySet());
        ids.sort((a, b) -> squares.get(a).compareTo(squares.get(b)));
        answers.addAll(ids.subList(0, Math.min(k, ids.size())));
        return 0;
    }

    private int join(int rel, int a, int b, int c, int d, List<Integer> answers) {
        if (b < a || d < c || (long) b - a > 63 || (long) d - c > 63) {
            return 5;
        }
        for (int i : live.subMap(a, true, b, true).keySet()) {
            for (int j : live.subMap(c, true, d, true).keySet()) {
                if (i != j && related(rel, live.get(i), live.get(j))) {
                    answers.add(i);
                    answers.add(j);
                }
            }
        }
        return 0;
    }
}
