/**
 * A base of shapes of the plane that is ruled by a small language of statements, keeps what is
 * committed through power failures, and answers questions by exact whole numbers.
 */
public final class LandBase {
    public static final int BAD = -1;

    private static final int GREATEST = 1073741823;
    private static final int MOST_PLACES = 40;
    private static final int MOST_RINGS = 8;
    private static final int MOST_LIVE = 200;
    private static final int GREATEST_ID = 9999;
    private static final int TAPE_ROOM = 4000;
    private static final int FEED_BYTES = 40;
    private static final int QUESTION_INTS = 19000;
    // Statements that are no questions put one int each behind the 19000, and a tape has fewer than 1000.
    private static final int INTS_ROOM = 20000;

    private static final int POINT = 0;
    private static final int LINESTRING = 1;
    private static final int POLYGON = 2;

    private static final int ADD = 0;
    private static final int DROP = 1;
    private static final int MOVE = 2;
    private static final int FILL = 3;
    private static final int BEGIN = 4;
    private static final int COMMIT = 5;
    private static final int ABORT = 6;
    private static final int PACK = 7;
    private static final int SAVE = 8;
    private static final int FIND = 9;
    private static final int WINDOW = 10;
    private static final int NEAR = 11;
    private static final int JOIN = 12;

    private static final int DONE = 0;
    private static final int IS_LIVE = 1;
    private static final int NOT_LIVE = 2;
    private static final int NOT_VALID = 3;
    private static final int NO_ROOM = 4;
    private static final int OUT_OF_RANGE = 5;
    private static final int OUT_OF_TURN = 6;
    private static final int TOO_MANY_INTS = 7;
    private static final int FALLEN = -1;

    private final Tape tape;
    private final Reader reader;
    private final Keeper keeper;
    private final Checker checker;
    private final Relations relations;
    private final Distance[] distances;
    private final int[] order;
    private final int[] ints;
    private int intCount;
    private int offered;
    private int wrongAt;

    public LandBase() {
        tape = new Tape();
        reader = new Reader();
        keeper = new Keeper();
        Cutter cutter = new Cutter();
        checker = new Checker(cutter);
        relations = new Relations(cutter);
        distances = new Distance[MOST_LIVE];
        for (int i = 0; i < MOST_LIVE; i++) {
            distances[i] = new Distance();
        }
        order = new int[MOST_LIVE];
        ints = new int[INTS_ROOM];
        intCount = 0;
        offered = 0;
        wrongAt = -1;
    }

    public int feed(long a, long b, long c, long d, long e) {
        if (tape.size + FEED_BYTES > TAPE_ROOM) {
            return BAD;
        }
        tape.append(a);
        tape.append(b);
        tape.append(c);
        tape.append(d);
        tape.append(e);
        return tape.size;
    }

    public int end(int n) {
        if (n < 0 || n > FEED_BYTES || tape.size < FEED_BYTES - n) {
            return BAD;
        }
        tape.size -= FEED_BYTES - n;
        return tape.size;
    }

    public int run() {
        if (keeper.down) {
            return BAD;
        }
        intCount = 0;
        wrongAt = -1;
        int done = 0;
        tape.rewind();
        while (done < TAPE_ROOM && tape.tokenKind != Tape.OVER) {
            if (!reader.readStatement(tape)) {
                wrongAt = tape.tokenFirst;
                break;
            }
            offered = 0;
            int code;
            switch (reader.verb) {
                case ADD:
                    code = add();
                    break;
                case DROP:
                    code = drop();
                    break;
                case MOVE:
                    code = move();
                    break;
                case FILL:
                    code = fill();
                    break;
                case FIND:
                    code = find();
                    break;
                case WINDOW:
                    code = window();
                    break;
                case NEAR:
                    code = near();
                    break;
                case JOIN:
                    code = join();
                    break;
                default:
                    code = keeper.turn(reader.verb);
                    break;
            }
            if (code == FALLEN) {
                break;
            }
            putAnswer(code);
            done++;
        }
        tape.clear();
        return done;
    }

    public int wrong() {
        return wrongAt;
    }

    public int outputs() {
        return intCount;
    }

    public int out(int i) {
        return i >= 0 && i < intCount ? ints[i] : 0;
    }

    public boolean crash(int kind, int n, int t) {
        if (keeper.down || kind < 0 || kind > 1 || n < 1 || n > 1000 || t < 0 || t > 200) {
            return false;
        }
        keeper.crashKind = kind;
        keeper.crashLeft = n;
        return true;
    }

    public int recover() {
        keeper.restore();
        return keeper.current.count;
    }

    public boolean isDown() {
        return keeper.down;
    }

    public boolean isOpen() {
        return keeper.open && !keeper.down;
    }

    public int live() {
        return keeper.down ? BAD : keeper.current.count;
    }

    public int idAt(int i) {
        if (keeper.down || i < 0 || i >= keeper.current.count) {
            return BAD;
        }
        return keeper.current.ids[i];
    }

    public int kindOf(int id) {
        Shape shape = shapeOf(id);
        return shape == null ? BAD : shape.kind;
    }

    public int places(int id) {
        Shape shape = shapeOf(id);
        return shape == null ? BAD : shape.size;
    }

    public int rings(int id) {
        Shape shape = shapeOf(id);
        return shape == null ? BAD : shape.ringCount;
    }

    public int at(int id, int i, int part) {
        Shape shape = shapeOf(id);
        if (shape == null || i < 0 || i >= shape.size || part < 0 || part > 1) {
            return 0;
        }
        return part == 0 ? shape.x[i] : shape.y[i];
    }

    public int relate(int rel, int a, int b) {
        Shape first = shapeOf(a);
        Shape second = shapeOf(b);
        if (first == null || second == null || rel < 0 || rel > Relations.CONTAINS) {
            return BAD;
        }
        return relations.holds(rel, first, second) ? 1 : 0;
    }

    public int nearer(int a, int b, int x, int y) {
        Shape first = shapeOf(a);
        Shape second = shapeOf(b);
        if (first == null || second == null || !isInPlane(x) || !isInPlane(y)) {
            return -2;
        }
        distances[0].measure(first, x, y);
        distances[1].measure(second, x, y);
        return distances[0].compareWith(distances[1]);
    }

    public int used() {
        return keeper.down ? BAD : keeper.blocks;
    }

    public int saves() {
        return keeper.saveCount;
    }

    public int flaws() {
        return keeper.countFlaws();
    }

    private static boolean isInPlane(long number) {
        return number >= -GREATEST && number <= GREATEST;
    }

    private Shape shapeOf(int id) {
        return keeper.down ? null : keeper.current.shapeWith(id);
    }

    /** Puts out what a statement answers; the offered answers of a question stand in place already. */
    private void putAnswer(int code) {
        if (reader.verb < FIND || code != DONE) {
            putInt(code);
            return;
        }
        int last = intCount + 2 + offered;
        if (last > QUESTION_INTS) {
            putInt(TOO_MANY_INTS);
            return;
        }
        putInt(DONE);
        putInt(reader.verb == JOIN ? offered / 2 : offered);
        intCount = last;
    }

    private void putInt(int number) {
        if (intCount < INTS_ROOM) {
            ints[intCount] = number;
            intCount++;
        }
    }

    /** Notes an answer behind the two ints that go ahead of it; what is too much is counted only. */
    private void offer(int answer) {
        int index = intCount + 2 + offered;
        if (index < QUESTION_INTS) {
            ints[index] = answer;
        }
        offered++;
    }

    private int add() {
        int id = reader.numbers[0];
        Shape shape = reader.shape;
        if (id < 1 || id > GREATEST_ID) {
            return OUT_OF_RANGE;
        }
        if (keeper.current.indexOf(id) >= 0) {
            return IS_LIVE;
        }
        if (shape.tooLarge) {
            return NO_ROOM;
        }
        if (!checker.isValid(shape)) {
            return NOT_VALID;
        }
        int bytes = 16 + 4 * shape.ringCount + 8 * shape.size;
        if (keeper.current.count >= MOST_LIVE || !keeper.hasRoom(bytes)) {
            return NO_ROOM;
        }
        Shape kept = keeper.freshShape();
        kept.copyMoved(shape, 0, 0);
        keeper.current.insert(id, kept);
        return keeper.settle(bytes);
    }

    private int drop() {
        int index = keeper.current.indexOf(reader.numbers[0]);
        if (index < 0) {
            return NOT_LIVE;
        }
        if (!keeper.hasRoom(8)) {
            return NO_ROOM;
        }
        keeper.current.removeAt(index);
        return keeper.settle(8);
    }

    private int move() {
        int index = keeper.current.indexOf(reader.numbers[0]);
        int dx = reader.numbers[1];
        int dy = reader.numbers[2];
        if (index < 0) {
            return NOT_LIVE;
        }
        Shape shape = keeper.current.shapes[index];
        if (!shape.canMove(dx, dy)) {
            return OUT_OF_RANGE;
        }
        if (!keeper.hasRoom(16)) {
            return NO_ROOM;
        }
        Shape moved = keeper.freshShape();
        moved.copyMoved(shape, dx, dy);
        keeper.current.replace(index, moved);
        return keeper.settle(16);
    }

    private int fill() {
        int id = reader.numbers[0];
        int k = reader.numbers[1];
        if (id < 1 || k < 1 || k > 100 || id + k - 1 > GREATEST_ID || !isFillInPlane()) {
            return OUT_OF_RANGE;
        }
        for (int i = 0; i < k; i++) {
            if (keeper.current.indexOf(id + i) >= 0) {
                return IS_LIVE;
            }
        }
        if (keeper.current.count + k > MOST_LIVE || !keeper.hasRoom(32)) {
            return NO_ROOM;
        }
        int seed = reader.numbers[5];
        for (int i = 0; i < k; i++) {
            Shape made = keeper.freshShape();
            seed = drawShape(made, seed);
            keeper.current.insert(id + i, made);
        }
        return keeper.settle(32);
    }

    private boolean isFillInPlane() {
        long w = reader.numbers[4];
        if (w < 1 || w > 1000000000) {
            return false;
        }
        long reach = w + w / 16 + 1;
        return reader.numbers[2] + reach <= GREATEST && reader.numbers[3] + reach <= GREATEST;
    }

    /** Makes the next shape of a FILL, and answers the seed that the one behind it begins with. */
    private int drawShape(Shape made, int seed) {
        int w = reader.numbers[4];
        int s = nextSeed(seed);
        int x = reader.numbers[2] + draw(s, w);
        s = nextSeed(s);
        int y = reader.numbers[3] + draw(s, w);
        made.start(reader.fillKind);
        made.addPlace(x, y);
        if (reader.fillKind == LINESTRING) {
            s = nextSeed(s);
            int c = draw(s, w / 16 + 1);
            s = nextSeed(s);
            made.addPlace(x + c + 1, y + draw(s, w / 16 + 1));
        } else if (reader.fillKind == POLYGON) {
            s = nextSeed(s);
            int e = draw(s, w / 16 + 1) + 1;
            made.addPlace(x + e, y);
            made.addPlace(x + e, y + e);
            made.addPlace(x, y + e);
            made.addPlace(x, y);
        }
        made.closeRing();
        made.finish();
        return s;
    }

    private static int nextSeed(int seed) {
        return seed * 1103515245 + 12345;
    }

    private static int draw(int seed, int n) {
        return n < 1 ? 0 : (seed >>> 8) % n;
    }

    private int find() {
        if (reader.shape.tooLarge) {
            return NO_ROOM;
        }
        if (!checker.isValid(reader.shape)) {
            return NOT_VALID;
        }
        Table table = keeper.current;
        for (int i = 0; i < table.count; i++) {
            if (relations.holds(reader.relation, table.shapes[i], reader.shape)) {
                offer(table.ids[i]);
            }
        }
        return DONE;
    }

    private int window() {
        int x1 = reader.numbers[0];
        int y1 = reader.numbers[1];
        int x2 = reader.numbers[2];
        int y2 = reader.numbers[3];
        if (x2 < x1 || y2 < y1) {
            return OUT_OF_RANGE;
        }
        Table table = keeper.current;
        for (int i = 0; i < table.count; i++) {
            if (Plane.isInWindow(table.shapes[i], x1, y1, x2, y2)) {
                offer(table.ids[i]);
            }
        }
        return DONE;
    }

    private int near() {
        int k = reader.numbers[0];
        if (k < 1 || k > MOST_LIVE) {
            return OUT_OF_RANGE;
        }
        Table table = keeper.current;
        for (int i = 0; i < table.count; i++) {
            distances[i].measure(table.shapes[i], reader.numbers[1], reader.numbers[2]);
            sortIn(i);
        }
        for (int i = 0; i < k && i < table.count; i++) {
            offer(table.ids[order[i]]);
        }
        return DONE;
    }

    /** Puts the i-th distance into the order of those ahead of it, behind its equals: these have lower ids. */
    private void sortIn(int i) {
        int low = 0;
        int high = i;
        for (int step = 0; step < MOST_LIVE && low < high; step++) {
            int middle = (low + high) / 2;
            if (distances[order[middle]].compareWith(distances[i]) > 0) {
                high = middle;
            } else {
                low = middle + 1;
            }
        }
        for (int j = i; j > low; j--) {
            order[j] = order[j - 1];
        }
        order[low] = i;
    }

    private int join() {
        int a = reader.numbers[0];
        int b = reader.numbers[1];
        int c = reader.numbers[2];
        int d = reader.numbers[3];
        if (b < a || d < c || b - a > 63 || d - c > 63) {
            return OUT_OF_RANGE;
        }
        Table table = keeper.current;
        for (int i = 0; i < table.count; i++) {
            if (table.ids[i] < a || table.ids[i] > b) {
                continue;
            }
            for (int j = 0; j < table.count; j++) {
                boolean asked = j != i && table.ids[j] >= c && table.ids[j] <= d;
                if (asked && relations.holds(reader.relation, table.shapes[i], table.shapes[j])) {
                    offer(table.ids[i]);
                    offer(table.ids[j]);
                }
            }
        }
        return DONE;
    }

    /** A point, a linestring or a polygon; its places stand ring by ring in one row. */
    private static final class Shape {
        private int kind;
        private int size;
        private int ringCount;
        private boolean tooLarge;
        private int minX;
        private int minY;
        private int maxX;
        private int maxY;
        // How many rows of tables hold it: one that none holds may be used anew.
        private int holders;
        private final int[] x;
        private final int[] y;
        private final int[] ringStop;
        private final boolean[] isLast;

        Shape() {
            x = new int[MOST_PLACES];
            y = new int[MOST_PLACES];
            ringStop = new int[MOST_RINGS];
            isLast = new boolean[MOST_PLACES];
        }

        void start(int newKind) {
            kind = newKind;
            size = 0;
            ringCount = 0;
            tooLarge = false;
        }

        void addPlace(int placeX, int placeY) {
            if (size >= MOST_PLACES) {
                tooLarge = true;
                return;
            }
            x[size] = placeX;
            y[size] = placeY;
            isLast[size] = false;
            size++;
        }

        void closeRing() {
            if (ringCount >= MOST_RINGS || size < 1) {
                tooLarge = true;
                return;
            }
            ringStop[ringCount] = size;
            ringCount++;
            isLast[size - 1] = true;
        }

        void finish() {
            minX = x[0];
            maxX = x[0];
            minY = y[0];
            maxY = y[0];
            for (int i = 1; i < size; i++) {
                minX = Math.min(minX, x[i]);
                maxX = Math.max(maxX, x[i]);
                minY = Math.min(minY, y[i]);
                maxY = Math.max(maxY, y[i]);
            }
        }

        int ringStart(int ring) {
            return ring < 1 || ring > ringCount ? 0 : ringStop[ring - 1];
        }

        boolean isAlike(int i, int j) {
            return x[i] == x[j] && y[i] == y[j];
        }

        boolean canMove(long dx, long dy) {
            return isInPlane(minX + dx) && isInPlane(maxX + dx) && isInPlane(minY + dy) && isInPlane(maxY + dy);
        }

        boolean isBoxApart(Shape other) {
            return maxX < other.minX || other.maxX < minX || maxY < other.minY || other.maxY < minY;
        }

        boolean isBoxWithin(Shape other) {
            return minX >= other.minX && maxX <= other.maxX && minY >= other.minY && maxY <= other.maxY;
        }

        void copyMoved(Shape from, int dx, int dy) {
            start(from.kind);
            int ring = 0;
            for (int i = 0; i < from.size; i++) {
                addPlace(from.x[i] + dx, from.y[i] + dy);
                if (ring < from.ringCount && from.ringStop[ring] == i + 1) {
                    closeRing();
                    ring++;
                }
            }
            finish();
        }
    }

    /** Ids, rising, each with its shape. */
    private static final class Table {
        private final int[] ids;
        private final Shape[] shapes;
        private int count;

        Table() {
            ids = new int[MOST_LIVE];
            shapes = new Shape[MOST_LIVE];
            count = 0;
        }

        int indexOf(int id) {
            for (int i = 0; i < count; i++) {
                if (ids[i] == id) {
                    return i;
                }
            }
            return -1;
        }

        Shape shapeWith(int id) {
            int index = indexOf(id);
            return index < 0 ? null : shapes[index];
        }

        void insert(int id, Shape shape) {
            if (count >= MOST_LIVE) {
                return;
            }
            int i = count;
            while (i > 0 && ids[i - 1] > id) {
                ids[i] = ids[i - 1];
                shapes[i] = shapes[i - 1];
                i--;
            }
            ids[i] = id;
            shapes[i] = shape;
            shape.holders++;
            count++;
        }

        void replace(int index, Shape shape) {
            if (index < 0 || index >= count) {
                return;
            }
            shapes[index].holders--;
            shapes[index] = shape;
            shape.holders++;
        }

        void removeAt(int index) {
            if (index < 0 || index >= count) {
                return;
            }
            shapes[index].holders--;
            count--;
            for (int i = index; i < count; i++) {
                ids[i] = ids[i + 1];
                shapes[i] = shapes[i + 1];
            }
        }

        void copyFrom(Table other) {
            for (int i = 0; i < count; i++) {
                shapes[i].holders--;
            }
            count = other.count;
            for (int i = 0; i < count; i++) {
                ids[i] = other.ids[i];
                shapes[i] = other.shapes[i];
                shapes[i].holders++;
            }
        }

        int countBadRows() {
            int bad = 0;
            for (int i = 0; i < count; i++) {
                boolean rises = i == 0 || ids[i - 1] < ids[i];
                boolean isId = ids[i] >= 1 && ids[i] <= GREATEST_ID;
                boolean isShape = shapes[i] != null && shapes[i].size >= 1 && shapes[i].holders >= 1;
                if (!rises || !isId || !isShape) {
                    bad++;
                }
            }
            return bad;
        }
    }

    /** What is live and what is committed, the log's room, and the power. */
    private static final class Keeper {
        private static final int TRANSACTION_BYTES = 14112;
        private static final int BLOCK_BYTES = 224;
        private static final int LOG_BLOCKS = 64;
        private static final int NO_CRASH = -1;
        private static final int CRASH_IN_LOG = 0;
        private static final int CRASH_IN_SAVE = 1;
        // The live, the committed, and the one that is being made.
        private static final int MOST_SHAPES = 2 * MOST_LIVE + 1;

        private final Table current;
        private final Table committed;
        private final Shape[] pool;
        private int pooled;
        private int lastGiven;
        private boolean open;
        private boolean down;
        private int bytes;
        private int blocks;
        private int saveCount;
        private int crashKind;
        private int crashLeft;

        Keeper() {
            current = new Table();
            committed = new Table();
            pool = new Shape[MOST_SHAPES];
            crashKind = NO_CRASH;
        }

        /** A shape that no table holds; those that were dropped are given again, so that few are ever made. */
        Shape freshShape() {
            for (int i = 0; i < pooled; i++) {
                lastGiven = lastGiven + 1 < pooled ? lastGiven + 1 : 0;
                if (pool[lastGiven].holders == 0) {
                    return pool[lastGiven];
                }
            }
            Shape made = new Shape();
            if (pooled < MOST_SHAPES) {
                pool[pooled] = made;
                pooled++;
            }
            return made;
        }

        boolean hasRoom(int more) {
            return !open || bytes + more <= TRANSACTION_BYTES;
        }

        /** A change of the live ones has been made: it waits for the COMMIT, or is committed at once. */
        int settle(int more) {
            if (open) {
                bytes += more;
                return DONE;
            }
            return writeLog(more);
        }

        /** Does a statement that changes no shape by itself. */
        int turn(int verb) {
            switch (verb) {
                case BEGIN:
                    return begin();
                case COMMIT:
                    return commit();
                case ABORT:
                    return abort();
                case SAVE:
                    return open ? OUT_OF_TURN : save();
                case PACK:
                default:
                    return DONE;
            }
        }

        private int begin() {
            if (open) {
                return OUT_OF_TURN;
            }
            open = true;
            bytes = 0;
            return DONE;
        }

        private int commit() {
            if (!open) {
                return OUT_OF_TURN;
            }
            open = false;
            return writeLog(bytes);
        }

        private int abort() {
            if (!open) {
                return OUT_OF_TURN;
            }
            open = false;
            current.copyFrom(committed);
            return DONE;
        }

        private int writeLog(int count) {
            int more = (count + BLOCK_BYTES - 1) / BLOCK_BYTES + 1;
            if (blocks + more > LOG_BLOCKS) {
                return save();
            }
            if (crashKind == CRASH_IN_LOG) {
                if (crashLeft <= more) {
                    down = true;
                    return FALLEN;
                }
                crashLeft -= more;
            }
            blocks += more;
            committed.copyFrom(current);
            return DONE;
        }

        private int save() {
            if (crashKind == CRASH_IN_SAVE) {
                down = true;
                return FALLEN;
            }
            blocks = 0;
            saveCount++;
            committed.copyFrom(current);
            return DONE;
        }

        void restore() {
            current.copyFrom(committed);
            open = false;
            down = false;
            crashKind = NO_CRASH;
        }

        int countFlaws() {
            int found = current.countBadRows() + committed.countBadRows();
            if (blocks < 0 || blocks > LOG_BLOCKS || bytes < 0 || bytes > TRANSACTION_BYTES) {
                found++;
            }
            if (!open && !down && current.count != committed.count) {
                found++;
            }
            return found;
        }
    }

    /** The bytes that were fed, and the token among them that is looked at. */
    private static final class Tape {
        static final int OVER = 0;
        static final int WORD = 1;
        static final int NUMBER = 2;
        static final int SIGN = 3;
        static final int NONE = 4;
        private static final int MOST_DIGITS = 10;

        private final byte[] bytes;
        private int size;
        private int tokenKind;
        private int tokenFirst;
        private int tokenNext;
        private int tokenNumber;

        Tape() {
            bytes = new byte[TAPE_ROOM];
            size = 0;
        }

        void append(long eight) {
            for (int shift = 56; shift >= 0 && size < TAPE_ROOM; shift -= 8) {
                bytes[size] = (byte) (eight >>> shift);
                size++;
            }
        }

        void clear() {
            size = 0;
        }

        void rewind() {
            tokenNext = 0;
            advance();
        }

        void advance() {
            int i = tokenNext;
            while (i < size && (bytes[i] == ' ' || bytes[i] == '\n')) {
                i++;
            }
            tokenFirst = i;
            tokenNext = i;
            if (i >= size) {
                tokenKind = OVER;
            } else if (bytes[i] >= 'A' && bytes[i] <= 'Z') {
                takeWord();
            } else if (bytes[i] >= '0' && bytes[i] <= '9' || bytes[i] == '-') {
                takeNumber();
            } else {
                boolean isSign = bytes[i] == '(' || bytes[i] == ')' || bytes[i] == ',' || bytes[i] == ';';
                tokenKind = isSign ? SIGN : NONE;
                tokenNext = i + 1;
            }
        }

        private void takeWord() {
            int i = tokenFirst;
            while (i < size && bytes[i] >= 'A' && bytes[i] <= 'Z') {
                i++;
            }
            tokenKind = WORD;
            tokenNext = i;
        }

        private void takeNumber() {
            boolean isNegative = bytes[tokenFirst] == '-';
            int start = isNegative ? tokenFirst + 1 : tokenFirst;
            long value = 0;
            int i = start;
            while (i < size && bytes[i] >= '0' && bytes[i] <= '9') {
                // Beyond the tenth digit it is no number, whatever its value.
                if (i - start < MOST_DIGITS) {
                    value = value * 10 + (bytes[i] - '0');
                }
                i++;
            }
            int digits = i - start;
            boolean isGood = digits >= 1 && digits <= MOST_DIGITS && value <= GREATEST;
            tokenKind = isGood ? NUMBER : NONE;
            tokenNumber = isGood ? (int) (isNegative ? -value : value) : 0;
            tokenNext = i;
        }

        /** Goes behind the sign, if it is looked at. */
        boolean skipSign(char sign) {
            if (tokenKind != SIGN || bytes[tokenFirst] != sign) {
                return false;
            }
            advance();
            return true;
        }

        /** Goes behind the word that is looked at, if it is one of these: which one; else -1. */
        int skipWord(String words) {
            if (tokenKind != WORD) {
                return -1;
            }
            int index = 0;
            int from = 0;
            for (int i = 0; i <= words.length(); i++) {
                if (i == words.length() || words.charAt(i) == ' ') {
                    if (isToken(words, from, i)) {
                        advance();
                        return index;
                    }
                    index++;
                    from = i + 1;
                }
            }
            return -1;
        }

        private boolean isToken(String words, int from, int stop) {
            if (stop - from != tokenNext - tokenFirst) {
                return false;
            }
            for (int i = from; i < stop; i++) {
                if (words.charAt(i) != bytes[tokenFirst + i - from]) {
                    return false;
                }
            }
            return true;
        }
    }

    /** Reads one statement; where it is wrong, the tape looks at the token that cannot stand there. */
    private static final class Reader {
        private static final String VERBS =
            "ADD DROP MOVE FILL BEGIN COMMIT ABORT PACK SAVE FIND WINDOW NEAR JOIN";
        private static final String RELATIONS = "INTERSECTS DISJOINT TOUCHES WITHIN CONTAINS";
        private static final String KINDS = "POINT LINESTRING POLYGON";
        private static final String FILL_KINDS = "POINTS LINES SQUARES";
        private static final int MOST_NUMBERS = 6;

        private final int[] numbers;
        private final Shape shape;
        private int numberCount;
        private int verb;
        private int relation;
        private int fillKind;

        Reader() {
            numbers = new int[MOST_NUMBERS];
            shape = new Shape();
        }

        boolean readStatement(Tape tape) {
            numberCount = 0;
            verb = tape.skipWord(VERBS);
            boolean isRead = verb >= 0;
            switch (verb) {
                case ADD:
                    isRead = readNumbers(tape, 1) && readShape(tape);
                    break;
                case DROP:
                    isRead = readNumbers(tape, 1);
                    break;
                case MOVE:
                case NEAR:
                    isRead = readNumbers(tape, 3);
                    break;
                case FILL:
                    isRead = readNumbers(tape, 2) && readFillKind(tape) && readNumbers(tape, 4);
                    break;
                case FIND:
                    isRead = readRelation(tape) && readShape(tape);
                    break;
                case WINDOW:
                    isRead = readNumbers(tape, 4);
                    break;
                case JOIN:
                    isRead = readRelation(tape) && readNumbers(tape, 4);
                    break;
                default:
                    break;
            }
            return isRead && tape.skipSign(';');
        }

        private boolean readNumbers(Tape tape, int count) {
            for (int i = 0; i < count; i++) {
                if (tape.tokenKind != Tape.NUMBER || numberCount >= MOST_NUMBERS) {
                    return false;
                }
                numbers[numberCount] = tape.tokenNumber;
                numberCount++;
                tape.advance();
            }
            return true;
        }

        private boolean readFillKind(Tape tape) {
            fillKind = tape.skipWord(FILL_KINDS);
            return fillKind >= 0;
        }

        private boolean readRelation(Tape tape) {
            relation = tape.skipWord(RELATIONS);
            return relation >= 0;
        }

        private boolean readShape(Tape tape) {
            int kind = tape.skipWord(KINDS);
            if (kind < 0) {
                return false;
            }
            shape.start(kind);
            boolean isRead = kind == POLYGON ? readRings(tape) : readRing(tape, kind == POINT ? 1 : TAPE_ROOM);
            shape.finish();
            return isRead;
        }

        private boolean readRings(Tape tape) {
            if (!tape.skipSign('(')) {
                return false;
            }
            for (int i = 0; i < TAPE_ROOM; i++) {
                if (!readRing(tape, TAPE_ROOM)) {
                    return false;
                }
                if (!tape.skipSign(',')) {
                    break;
                }
            }
            return tape.skipSign(')');
        }

        private boolean readRing(Tape tape, int most) {
            if (!tape.skipSign('(')) {
                return false;
            }
            for (int i = 0; i < most; i++) {
                if (!readPlace(tape)) {
                    return false;
                }
                if (i + 1 == most || !tape.skipSign(',')) {
                    break;
                }
            }
            shape.closeRing();
            return tape.skipSign(')');
        }

        private boolean readPlace(Tape tape) {
            if (tape.tokenKind != Tape.NUMBER) {
                return false;
            }
            int x = tape.tokenNumber;
            tape.advance();
            if (tape.tokenKind != Tape.NUMBER) {
                return false;
            }
            shape.addPlace(x, tape.tokenNumber);
            tape.advance();
            return true;
        }
    }

    /**
     * Points and ways in whole numbers. Differences of places stay below 2^31, so the cross and dot
     * products of two of them stay below 2^63.
     */
    private static final class Plane {
        private static final long LOW_HALF = 0xFFFFFFFFL;
        private static final long TOP_BIT = 1L << 63;

        private Plane() {
        }

        /** Above 0 if the point is to the left of the way behind the place i, 0 if it is on its line. */
        static long sideOf(Shape s, int i, long px, long py) {
            long ax = s.x[i];
            long ay = s.y[i];
            return (s.x[i + 1] - ax) * (py - ay) - (s.y[i + 1] - ay) * (px - ax);
        }

        static boolean isInBoxOf(Shape s, int i, int px, int py) {
            boolean isByX = s.x[i] <= px && px <= s.x[i + 1] || s.x[i + 1] <= px && px <= s.x[i];
            return isByX && (s.y[i] <= py && py <= s.y[i + 1] || s.y[i + 1] <= py && py <= s.y[i]);
        }

        static boolean isOnWay(Shape s, int i, int px, int py) {
            return isInBoxOf(s, i, px, py) && sideOf(s, i, px, py) == 0;
        }

        /** 1 if the point is of the interior, 0 if of the boundary, -1 if of the exterior. */
        static int locate(Shape s, int px, int py) {
            if (px < s.minX || px > s.maxX || py < s.minY || py > s.maxY) {
                return -1;
            }
            if (s.kind == POINT) {
                return 1;
            }
            return s.kind == LINESTRING ? locateOnLine(s, px, py) : locateInPolygon(s, px, py);
        }

        private static int locateOnLine(Shape s, int px, int py) {
            int last = s.size - 1;
            if (last >= 1 && !s.isAlike(0, last)) {
                boolean isFirst = s.x[0] == px && s.y[0] == py;
                if (isFirst || s.x[last] == px && s.y[last] == py) {
                    return 0;
                }
            }
            for (int i = 0; i < last; i++) {
                if (isOnWay(s, i, px, py)) {
                    return 1;
                }
            }
            return -1;
        }

        private static int locateInPolygon(Shape s, int px, int py) {
            boolean odd = false;
            for (int i = 0; i + 1 < s.size; i++) {
                if (s.isLast[i]) {
                    continue;
                }
                if (isOnWay(s, i, px, py)) {
                    return 0;
                }
                boolean rises = s.y[i + 1] > py;
                if ((s.y[i] > py) != rises && (sideOf(s, i, px, py) > 0) == rises) {
                    odd = !odd;
                }
            }
            return odd ? 1 : -1;
        }

        /** How many points two ways have in common: 0, 1, or 2 for more than one. */
        static int countCommon(Shape a, int i, Shape b, int j) {
            if (areBoxesApart(a, i, b, j)) {
                return 0;
            }
            long s1 = sideOf(a, i, b.x[j], b.y[j]);
            long s2 = sideOf(a, i, b.x[j + 1], b.y[j + 1]);
            if (s1 == 0 && s2 == 0) {
                return countOnLine(a, i, b, j);
            }
            if (s1 > 0 && s2 > 0 || s1 < 0 && s2 < 0) {
                return 0;
            }
            long s3 = sideOf(b, j, a.x[i], a.y[i]);
            long s4 = sideOf(b, j, a.x[i + 1], a.y[i + 1]);
            return s3 > 0 && s4 > 0 || s3 < 0 && s4 < 0 ? 0 : 1;
        }

        private static boolean areBoxesApart(Shape a, int i, Shape b, int j) {
            return Math.max(a.x[i], a.x[i + 1]) < Math.min(b.x[j], b.x[j + 1])
                || Math.max(b.x[j], b.x[j + 1]) < Math.min(a.x[i], a.x[i + 1])
                || Math.max(a.y[i], a.y[i + 1]) < Math.min(b.y[j], b.y[j + 1])
                || Math.max(b.y[j], b.y[j + 1]) < Math.min(a.y[i], a.y[i + 1]);
        }

        private static int countOnLine(Shape a, int i, Shape b, int j) {
            boolean byX = a.x[i] != a.x[i + 1];
            int[] p = byX ? a.x : a.y;
            int[] q = byX ? b.x : b.y;
            int low = Math.max(Math.min(p[i], p[i + 1]), Math.min(q[j], q[j + 1]));
            int high = Math.min(Math.max(p[i], p[i + 1]), Math.max(q[j], q[j + 1]));
            if (low > high) {
                return 0;
            }
            return low == high ? 1 : 2;
        }

        static boolean isInWindow(Shape s, int x1, int y1, int x2, int y2) {
            if (s.maxX < x1 || s.minX > x2 || s.maxY < y1 || s.minY > y2) {
                return false;
            }
            if (s.kind == POINT) {
                return true;
            }
            for (int i = 0; i + 1 < s.size; i++) {
                boolean isBeside = Math.max(s.x[i], s.x[i + 1]) < x1 || Math.min(s.x[i], s.x[i + 1]) > x2
                    || Math.max(s.y[i], s.y[i + 1]) < y1 || Math.min(s.y[i], s.y[i + 1]) > y2;
                if (s.isLast[i] || isBeside) {
                    continue;
                }
                long p = sideOf(s, i, x1, y1);
                long q = sideOf(s, i, x1, y2);
                long r = sideOf(s, i, x2, y1);
                long t = sideOf(s, i, x2, y2);
                boolean allLeft = p > 0 && q > 0 && r > 0 && t > 0;
                boolean allRight = p < 0 && q < 0 && r < 0 && t < 0;
                if (!allLeft && !allRight) {
                    return true;
                }
            }
            // No boundary in the window: a polygon has all of it or nothing.
            return s.kind == POLYGON && locate(s, x1, y1) >= 0;
        }

        /** The upper 64 bits of the product of two numbers of 64 bits without a sign. */
        static long upperProduct(long a, long b) {
            long a1 = a >>> 32;
            long a0 = a & LOW_HALF;
            long b1 = b >>> 32;
            long b0 = b & LOW_HALF;
            long first = a1 * b0 + ((a0 * b0) >>> 32);
            long second = a0 * b1 + (first & LOW_HALF);
            return a1 * b1 + (first >>> 32) + (second >>> 32);
        }

        /** Compares numbers of 64 bits without a sign. */
        static int compareBits(long a, long b) {
            if (a == b) {
                return 0;
            }
            return (a ^ TOP_BIT) < (b ^ TOP_BIT) ? -1 : 1;
        }

        /** Compares a * b with c * d, none of which is below 0. */
        static int compareProducts(long a, long b, long c, long d) {
            int upper = compareBits(upperProduct(a, b), upperProduct(c, d));
            return upper != 0 ? upper : compareBits(a * b, c * d);
        }
    }

    /**
     * Cuts ways at the rings of a region and tells how the pieces lie: the bits of INSIDE, OUTSIDE and
     * ALONG (on a ring) for pieces that are more than a point, TOUCH for any common point with a ring.
     */
    private static final class Cutter {
        static final int INSIDE = 1;
        static final int OUTSIDE = 2;
        static final int ALONG = 4;
        static final int TOUCH = 8;
        private static final int MOST_CUTS = 2 * MOST_PLACES;
        private static final int CROSSING = 0;
        private static final int STRETCH_BEGINS = 1;
        private static final int STRETCH_ENDS = -1;

        private Shape region;
        private int from;
        private int stop;
        private int minX;
        private int minY;
        private int maxX;
        private int maxY;
        // A cut is at the part over / under of the way.
        private final long[] over;
        private final long[] under;
        private final int[] turn;
        private int cuts;
        private boolean odd;
        private int covers;
        private boolean touched;

        Cutter() {
            region = new Shape();
            over = new long[MOST_CUTS];
            under = new long[MOST_CUTS];
            turn = new int[MOST_CUTS];
        }

        /** The region is that of the rings from one place to ahead of another. */
        void aim(Shape shape, int first, int behind) {
            region = shape;
            from = first < 0 || first >= shape.size ? 0 : first;
            stop = Math.min(behind, shape.size);
            minX = shape.x[from];
            maxX = minX;
            minY = shape.y[from];
            maxY = minY;
            for (int i = from; i < stop; i++) {
                minX = Math.min(minX, shape.x[i]);
                maxX = Math.max(maxX, shape.x[i]);
                minY = Math.min(minY, shape.y[i]);
                maxY = Math.max(maxY, shape.y[i]);
            }
        }

        /** How the ways of some places lie; it stops when one of the bits that are enough is known. */
        int scan(Shape s, int first, int behind, int enough) {
            int mask = 0;
            for (int i = Math.max(first, 0); i + 1 < behind && i + 1 < s.size && (mask & enough) == 0; i++) {
                if (s.isLast[i]) {
                    continue;
                }
                if (isWayApart(s, i)) {
                    mask |= OUTSIDE;
                    continue;
                }
                gather(s, i);
                sortCuts();
                mask |= sweep();
                if (touched) {
                    mask |= TOUCH;
                }
            }
            return mask;
        }

        private boolean isWayApart(Shape s, int i) {
            return Math.max(s.x[i], s.x[i + 1]) < minX || Math.min(s.x[i], s.x[i + 1]) > maxX
                || Math.max(s.y[i], s.y[i + 1]) < minY || Math.min(s.y[i], s.y[i + 1]) > maxY;
        }

        private void gather(Shape s, int i) {
            cuts = 0;
            odd = false;
            covers = 0;
            touched = false;
            long before = 0;
            for (int j = from; j < stop; j++) {
                long here = Plane.sideOf(s, i, region.x[j], region.y[j]);
                if (here == 0 && Plane.isInBoxOf(s, i, region.x[j], region.y[j])) {
                    touched = true;
                }
                if (j > from && !region.isLast[j - 1]) {
                    // A place on the way's line counts as to the right of it, so that each passing counts once.
                    if ((before > 0) != (here > 0)) {
                        cross(s, i, j, here - before);
                    } else if (before == 0 && here == 0) {
                        goAlong(s, i, j);
                    }
                }
                before = here;
            }
        }

        /** The ring's way to its place j passes the line of the way i of s; steep is their cross product. */
        private void cross(Shape s, int i, int j, long steep) {
            long qx = region.x[j - 1];
            long qy = region.y[j - 1];
            long part = (qx - s.x[i]) * (region.y[j] - qy) - (qy - s.y[i]) * (region.x[j] - qx);
            long whole = steep;
            if (whole < 0) {
                whole = -whole;
                part = -part;
            }
            if (part >= 0 && part <= whole) {
                touched = true;
            }
            if (part > 0) {
                odd = !odd;
            }
            if (part > 0 && part < whole) {
                noteCut(part, whole, CROSSING);
            }
        }

        private void goAlong(Shape s, int i, int j) {
            boolean byX = s.x[i] != s.x[i + 1];
            int[] p = byX ? s.x : s.y;
            int[] q = byX ? region.x : region.y;
            long whole = (long) p[i + 1] - p[i];
            long one = (long) q[j - 1] - p[i];
            long two = (long) q[j] - p[i];
            if (whole < 0) {
                whole = -whole;
                one = -one;
                two = -two;
            }
            long low = Math.min(one, two);
            long high = Math.max(one, two);
            if (high <= 0 || low >= whole) {
                return;
            }
            if (low > 0) {
                noteCut(low, whole, STRETCH_BEGINS);
            } else {
                covers++;
            }
            if (high < whole) {
                noteCut(high, whole, STRETCH_ENDS);
            }
        }

        private void noteCut(long part, long whole, int what) {
            if (cuts < MOST_CUTS) {
                over[cuts] = part;
                under[cuts] = whole;
                turn[cuts] = what;
                cuts++;
            }
        }

        private void sortCuts() {
            for (int i = 1; i < cuts; i++) {
                long part = over[i];
                long whole = under[i];
                int what = turn[i];
                int j = i;
                while (j > 0 && Plane.compareProducts(over[j - 1], whole, part, under[j - 1]) > 0) {
                    over[j] = over[j - 1];
                    under[j] = under[j - 1];
                    turn[j] = turn[j - 1];
                    j--;
                }
                over[j] = part;
                under[j] = whole;
                turn[j] = what;
            }
        }

        private int sweep() {
            int mask = 0;
            long lastOver = 0;
            long lastUnder = 1;
            for (int i = 0; i < cuts; i++) {
                if (Plane.compareProducts(over[i], lastUnder, lastOver, under[i]) > 0) {
                    mask |= lieOfPiece();
                    lastOver = over[i];
                    lastUnder = under[i];
                }
                if (turn[i] == CROSSING) {
                    odd = !odd;
                } else {
                    covers += turn[i];
                }
            }
            return mask | lieOfPiece();
        }

        private int lieOfPiece() {
            if (covers > 0) {
                return ALONG;
            }
            return odd ? INSIDE : OUTSIDE;
        }
    }

    /** The relations of two valid shapes. */
    private static final class Relations {
        static final int INTERSECTS = 0;
        static final int DISJOINT = 1;
        static final int TOUCHES = 2;
        static final int WITHIN = 3;
        static final int CONTAINS = 4;

        private final Cutter cutter;

        Relations(Cutter cutter) {
            this.cutter = cutter;
        }

        boolean holds(int relation, Shape a, Shape b) {
            switch (relation) {
                case INTERSECTS:
                    return doMeet(a, b);
                case DISJOINT:
                    return !doMeet(a, b);
                case TOUCHES:
                    return doMeet(a, b) && !doInteriorsMeet(a, b);
                case WITHIN:
                    return isWithin(a, b);
                case CONTAINS:
                    return isWithin(b, a);
                default:
                    return false;
            }
        }

        private boolean doMeet(Shape one, Shape two) {
            if (one.isBoxApart(two)) {
                return false;
            }
            Shape a = one.kind <= two.kind ? one : two;
            Shape b = one.kind <= two.kind ? two : one;
            if (a.kind == POINT) {
                return Plane.locate(b, a.x[0], a.y[0]) >= 0;
            }
            if (b.kind == LINESTRING) {
                return doLinesMeet(a, b);
            }
            int common = Cutter.INSIDE | Cutter.ALONG | Cutter.TOUCH;
            cutter.aim(b, 0, b.size);
            if ((cutter.scan(a, 0, a.size, common) & common) != 0) {
                return true;
            }
            // No ring of the one is in the other: the other may still be wholly in the one.
            return a.kind == POLYGON && Plane.locate(a, b.x[0], b.y[0]) >= 0;
        }

        private static boolean doLinesMeet(Shape a, Shape b) {
            for (int i = 0; i + 1 < a.size; i++) {
                for (int j = 0; j + 1 < b.size; j++) {
                    if (Plane.countCommon(a, i, b, j) > 0) {
                        return true;
                    }
                }
            }
            return false;
        }

        private boolean doInteriorsMeet(Shape one, Shape two) {
            Shape a = one.kind <= two.kind ? one : two;
            Shape b = one.kind <= two.kind ? two : one;
            if (a.kind == POINT) {
                return Plane.locate(b, a.x[0], a.y[0]) == 1;
            }
            if (b.kind == LINESTRING) {
                return doLineInteriorsMeet(a, b);
            }
            cutter.aim(b, 0, b.size);
            int ways = cutter.scan(a, 0, a.size, Cutter.INSIDE);
            if ((ways & Cutter.INSIDE) != 0) {
                return true;
            }
            if (a.kind == LINESTRING) {
                return false;
            }
            cutter.aim(a, 0, a.size);
            int others = cutter.scan(b, 0, b.size, Cutter.INSIDE);
            return (others & Cutter.INSIDE) != 0 || areOnlyAlong(ways, others);
        }

        /** Whether two polygons have the same boundary; then they are the same. */
        private static boolean areOnlyAlong(int ways, int others) {
            return (ways & ~Cutter.TOUCH) == Cutter.ALONG && (others & ~Cutter.TOUCH) == Cutter.ALONG;
        }

        private static boolean doLineInteriorsMeet(Shape a, Shape b) {
            for (int i = 0; i + 1 < a.size; i++) {
                for (int j = 0; j + 1 < b.size; j++) {
                    int common = Plane.countCommon(a, i, b, j);
                    if (common == 2 || common == 1 && !isAtTip(a, i, a, b, j) && !isAtTip(b, j, b, a, i)) {
                        return true;
                    }
                }
            }
            return false;
        }

        /** Whether the only common point of the way i of a and the way j of b is a boundary point of a line. */
        private static boolean isAtTip(Shape a, int i, Shape line, Shape b, int j) {
            int last = line.size - 1;
            if (last < 1 || line.isAlike(0, last)) {
                return false;
            }
            return Plane.isOnWay(a, i, line.x[0], line.y[0]) && Plane.isOnWay(b, j, line.x[0], line.y[0])
                || Plane.isOnWay(a, i, line.x[last], line.y[last]) && Plane.isOnWay(b, j, line.x[last], line.y[last]);
        }

        private boolean isWithin(Shape a, Shape b) {
            if (a.kind > b.kind || !a.isBoxWithin(b)) {
                return false;
            }
            if (a.kind == POINT) {
                return Plane.locate(b, a.x[0], a.y[0]) == 1;
            }
            if (b.kind == LINESTRING) {
                return isLineWithin(a, b);
            }
            cutter.aim(b, 0, b.size);
            int ways = cutter.scan(a, 0, a.size, Cutter.OUTSIDE);
            if ((ways & Cutter.OUTSIDE) != 0) {
                return false;
            }
            boolean isInside = (ways & Cutter.INSIDE) != 0;
            if (a.kind == LINESTRING) {
                return isInside;
            }
            cutter.aim(a, 0, a.size);
            int others = cutter.scan(b, 0, b.size, Cutter.INSIDE);
            return (others & Cutter.INSIDE) == 0 && (isInside || areOnlyAlong(ways, others));
        }

        private static boolean isLineWithin(Shape a, Shape b) {
            for (int i = 0; i + 1 < a.size; i++) {
                if (!isWayCovered(a, i, b)) {
                    return false;
                }
            }
            return true;
        }

        private static boolean isWayCovered(Shape a, int i, Shape b) {
            boolean byX = a.x[i] != a.x[i + 1];
            int[] p = byX ? a.x : a.y;
            int[] q = byX ? b.x : b.y;
            int reached = Math.min(p[i], p[i + 1]);
            int goal = Math.max(p[i], p[i + 1]);
            // Each round but the last reaches the end of another way of b.
            for (int round = 0; round < b.size && reached < goal; round++) {
                for (int j = 0; j + 1 < b.size; j++) {
                    boolean goesOn = Math.min(q[j], q[j + 1]) <= reached && Math.max(q[j], q[j + 1]) > reached;
                    if (goesOn && Plane.sideOf(a, i, b.x[j], b.y[j]) == 0
                        && Plane.sideOf(a, i, b.x[j + 1], b.y[j + 1]) == 0) {
                        reached = Math.max(q[j], q[j + 1]);
                    }
                }
            }
            return reached >= goal;
        }
    }

    /** Tells whether a shape that is not too large is valid. */
    private static final class Checker {
        private final Cutter cutter;
        private final int[] group;

        Checker(Cutter cutter) {
            this.cutter = cutter;
            group = new int[MOST_RINGS];
        }

        boolean isValid(Shape s) {
            if (s.kind == POINT) {
                return s.size == 1;
            }
            if (s.kind == LINESTRING) {
                return s.size >= 2 && !hasPauses(s, 0, s.size);
            }
            for (int r = 0; r < s.ringCount; r++) {
                if (!isRing(s, s.ringStart(r), s.ringStop[r])) {
                    return false;
                }
            }
            return s.ringCount >= 1 && doHolesFit(s) && isOnePiece(s);
        }

        /** Whether two places one behind the other are alike. */
        private static boolean hasPauses(Shape s, int from, int stop) {
            for (int i = from; i + 1 < stop; i++) {
                if (s.isAlike(i, i + 1)) {
                    return true;
                }
            }
            return false;
        }

        private static boolean isRing(Shape s, int from, int stop) {
            if (stop - from < 4 || !s.isAlike(from, stop - 1) || hasPauses(s, from, stop)) {
                return false;
            }
            for (int i = from; i + 1 < stop; i++) {
                for (int j = i + 1; j + 1 < stop; j++) {
                    boolean areNeighbours = j == i + 1 || i == from && j + 2 == stop;
                    if (Plane.countCommon(s, i, s, j) > (areNeighbours ? 1 : 0)) {
                        return false;
                    }
                }
            }
            return true;
        }

        private boolean doHolesFit(Shape s) {
            for (int r = 1; r < s.ringCount; r++) {
                for (int q = 0; q < s.ringCount; q++) {
                    int no = q == 0 ? Cutter.OUTSIDE | Cutter.ALONG : Cutter.INSIDE | Cutter.ALONG;
                    if (q == r) {
                        continue;
                    }
                    cutter.aim(s, s.ringStart(q), s.ringStop[q]);
                    if ((cutter.scan(s, s.ringStart(r), s.ringStop[r], no) & no) != 0) {
                        return false;
                    }
                }
            }
            return true;
        }

        /** Whether rings and the points at which they touch make no circle; such a point is a place of a ring. */
        private boolean isOnePiece(Shape s) {
            for (int r = 0; r < MOST_RINGS; r++) {
                group[r] = r;
            }
            for (int i = 0; i < s.size; i++) {
                if (!isSeenBefore(s, i) && closesCircle(s, i)) {
                    return false;
                }
            }
            return true;
        }

        private static boolean isSeenBefore(Shape s, int i) {
            for (int j = 0; j < i; j++) {
                if (s.isAlike(i, j)) {
                    return true;
                }
            }
            return false;
        }

        /** Joins the groups of all rings that a place is on; two of them in one group already make a circle. */
        private boolean closesCircle(Shape s, int i) {
            int joined = -1;
            for (int r = 0; r < s.ringCount; r++) {
                if (!isOnRing(s, r, s.x[i], s.y[i])) {
                    continue;
                }
                if (joined < 0) {
                    joined = group[r];
                } else if (group[r] == joined) {
                    return true;
                } else {
                    joinGroups(group[r], joined);
                }
            }
            return false;
        }

        private static boolean isOnRing(Shape s, int ring, int px, int py) {
            for (int i = s.ringStart(ring); i + 1 < s.ringStop[ring]; i++) {
                if (Plane.isOnWay(s, i, px, py)) {
                    return true;
                }
            }
            return false;
        }

        private void joinGroups(int old, int joined) {
            for (int r = 0; r < MOST_RINGS; r++) {
                if (group[r] == old) {
                    group[r] = joined;
                }
            }
        }
    }

    /** The square of a distance: (upper * 2^64 + lower) / under, upper and lower without a sign. */
    private static final class Distance {
        private long upper;
        private long lower;
        private long under;

        Distance() {
            under = 1;
        }

        void measure(Shape s, int px, int py) {
            keep(0, 0, 1);
            if (s.kind == POLYGON && Plane.locate(s, px, py) >= 0) {
                return;
            }
            for (int i = 0; i < s.size; i++) {
                long dx = (long) px - s.x[i];
                long dy = (long) py - s.y[i];
                long square = dx * dx + dy * dy;
                if (i == 0 || compareParts(0, square, 1) > 0) {
                    keep(0, square, 1);
                }
                if (i + 1 < s.size && !s.isLast[i]) {
                    measureFoot(s, i, dx, dy);
                }
            }
        }

        /** The foot of the point on the way's line counts if it is on the way and none of its ends. */
        private void measureFoot(Shape s, int i, long dx, long dy) {
            long ex = (long) s.x[i + 1] - s.x[i];
            long ey = (long) s.y[i + 1] - s.y[i];
            long length = ex * ex + ey * ey;
            long along = dx * ex + dy * ey;
            if (along <= 0 || along >= length) {
                return;
            }
            long cross = ex * dy - ey * dx;
            if (cross < 0) {
                cross = -cross;
            }
            long high = Plane.upperProduct(cross, cross);
            if (compareParts(high, cross * cross, length) > 0) {
                keep(high, cross * cross, length);
            }
        }

        private void keep(long newUpper, long newLower, long newUnder) {
            upper = newUpper;
            lower = newLower;
            under = newUnder;
        }

        int compareWith(Distance other) {
            return compareParts(other.upper, other.lower, other.under);
        }

        /** Compares the products of each with what is under the other one, which have 192 bits. */
        private int compareParts(long otherUpper, long otherLower, long otherUnder) {
            long carry = Plane.upperProduct(lower, otherUnder);
            long middle = upper * otherUnder + carry;
            long top = Plane.upperProduct(upper, otherUnder)
                + (Plane.compareBits(middle, carry) < 0 ? 1 : 0);
            long otherCarry = Plane.upperProduct(otherLower, under);
            long otherMiddle = otherUpper * under + otherCarry;
            long otherTop = Plane.upperProduct(otherUpper, under)
                + (Plane.compareBits(otherMiddle, otherCarry) < 0 ? 1 : 0);
            int sign = Plane.compareBits(top, otherTop);
            if (sign == 0) {
                sign = Plane.compareBits(middle, otherMiddle);
            }
            if (sign == 0) {
                sign = Plane.compareBits(lower * otherUnder, otherLower * under);
            }
            return sign;
        }
    }
}
