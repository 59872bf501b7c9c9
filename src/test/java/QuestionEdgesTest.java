/** The edges of the questions of "3 STATEMENTS", of the 19000 INTS, and of the DISTANCE of "2 SHAPES", sentence by sentence. */
public final class QuestionEdgesTest {
    private static final int GREATEST = 1073741823;
    private static final String HOLED = "POLYGON((0 0,10 0,10 10,0 10,0 0),(3 3,7 3,7 7,3 7,3 3))";

    public static void main(String[] args) {
        nothingIsLive();
        findEach();
        findRefusals();
        windowRefusals();
        windowBorders();
        windowsAndLines();
        windowsAndPolygons();
        windowsGreatAndSmall();
        nearHowMany();
        nearAlikeOnes();
        distanceIsNought();
        distanceOfLines();
        distanceOfPolygons();
        distancesExact();
        distancesOneByOne();
        joinRanges();
        joinAnother();
        joinOrder();
        upTo19000();
        full();
        Desk.finish();
    }

    /** "n, how many answers": none, of an empty base. */
    private static void nothingIsLive() {
        Desk desk = new Desk();
        desk.dueInts("FIND DISJOINT POINT(0 0);WINDOW 0 0 1 1;NEAR 200 0 0;JOIN DISJOINT 1 64 1 64;", 0, 0, 0, 0, 0, 0, 0, 0);
        desk.dueInts("ADD 1 POINT(0 0);DROP 1;FIND INTERSECTS POINT(0 0);NEAR 1 0 0;", 0, 0, 0, 0, 0, 0);
        desk.dueInts("BEGIN;ADD 1 POINT(0 0);FIND INTERSECTS POINT(0 0);ABORT;FIND INTERSECTS POINT(0 0);", 0, 0, 0, 1, 1, 0, 0, 0);
    }

    /** "all LIVE ones that are in that RELATION to the SHAPE (a WITHIN: the LIVE one is within it), rising". */
    private static void findEach() {
        Desk desk = new Desk();
        desk.dueInts("ADD 9999 POINT(5 5);ADD 3 POLYGON((4 4,6 4,6 6,4 6,4 4));ADD 70 POLYGON((0 0,20 0,20 20,0 20,0 0));"
            + "ADD 8 LINESTRING(10 0,10 10);ADD 1 POINT(30 30);ADD 5 POLYGON((8 8,12 8,12 12,8 12,8 8));", 0, 0, 0, 0, 0, 0);
        String shape = " POLYGON((0 0,10 0,10 10,0 10,0 0));";
        desk.dueInts("FIND INTERSECTS" + shape, 0, 5, 3, 5, 8, 70, 9999);
        desk.dueInts("FIND DISJOINT" + shape, 0, 1, 1);
        desk.dueInts("FIND TOUCHES" + shape, 0, 1, 8);
        desk.dueInts("FIND WITHIN" + shape, 0, 2, 3, 9999);
        desk.dueInts("FIND CONTAINS" + shape, 0, 1, 70);
        Desk.due("the shape does not stay", desk.base.live(), 6);
    }

    /** "4 (more than 40 places or 8 rings), 3 (not VALID), 7": in this order. */
    private static void findRefusals() {
        Desk desk = new Desk();
        String many = " LINESTRING(0 0" + ",1 1,0 0".repeat(20) + ");";
        String most = " LINESTRING(0 0" + ",1 1,0 0".repeat(19) + ",1 1);";
        desk.dueInts("FIND WITHIN" + many + "FIND WITHIN" + most + "FIND WITHIN LINESTRING(0 0);FIND WITHIN POLYGON((0 0,1 1,0 0));", 4, 0, 0, 3, 3);
        desk.dueInts("FIND WITHIN LINESTRING(0 0" + ",0 0".repeat(40) + ");FIND WITHIN LINESTRING(0 0" + ",0 0".repeat(39) + ");", 4, 3);
        desk.dueInts("FIND WITHIN POLYGON((0 0)" + ",(0 0)".repeat(8) + ");FIND WITHIN POLYGON((0 0)" + ",(0 0)".repeat(7) + ");", 4, 3);
    }

    /** "5 (x2 below x1, or y2 below y1)": a single point is no harm. */
    private static void windowRefusals() {
        Desk desk = new Desk();
        desk.dueInts("ADD 1 POINT(3 4);", 0);
        desk.dueInts("WINDOW 3 4 3 4;WINDOW 4 4 3 4;WINDOW 3 5 3 4;WINDOW 4 5 3 4;WINDOW 4 4 3 5;", 0, 1, 1, 5, 5, 5, 5);
        desk.dueInts("WINDOW 1073741823 0 -1073741823 0;WINDOW 0 1073741823 0 -1073741823;", 5, 5);
        desk.dueInts("WINDOW -1073741823 -1073741823 1073741823 1073741823;WINDOW 3 -1073741823 3 1073741823;", 0, 1, 1, 0, 1, 1);
    }

    /** "x1 <= x <= x2 and y1 <= y <= y2": on each side, at each corner, and a unit beyond. */
    private static void windowBorders() {
        Desk desk = new Desk();
        StringBuilder text = new StringBuilder();
        int[] numbers = {1, 2, 4, 6, 7};
        for (int i = 0; i < 25; i++) {
            text.append("ADD ").append(i + 1).append(" POINT(").append(numbers[i % 5]).append(" ").append(numbers[i / 5]).append(");");
        }
        desk.sayLong(text.toString());
        desk.dueInts("WINDOW 2 2 6 6;", 0, 9, 7, 8, 9, 12, 13, 14, 17, 18, 19);
        desk.dueInts("WINDOW 2 3 6 5;WINDOW 3 2 5 6;WINDOW 3 3 3 3;", 0, 3, 12, 13, 14, 0, 3, 8, 13, 18, 0, 0);
    }

    private static void window(String shape, String window, int n) {
        for (long[] map : new long[][] {{1, 0, 0, 0, 1, 0}, {-1, 0, 0, 0, 1, 0}, {0, 1, 0, -1, 0, 0}, {0, -1, 0, 1, 0, 0},
            {45000000, 0, 7, 0, 45000000, -9}}) {
            Desk desk = new Desk();
            String[] w = window.split(" ");
            Figure corners = new Figure(1, new long[] {Long.parseLong(w[0]), Long.parseLong(w[1]), Long.parseLong(w[2]), Long.parseLong(w[3])}).mapped(map);
            long[] a = corners.rows.get(0)[0];
            long[] b = corners.rows.get(0)[1];
            String text = "WINDOW " + Math.min(a[0], b[0]) + " " + Math.min(a[1], b[1]) + " " + Math.max(a[0], b[0]) + " " + Math.max(a[1], b[1]) + ";";
            desk.dueInts("ADD 1 " + Figure.of(shape).mapped(map).text() + ";" + text, n == 0 ? new int[] {0, 0, 0} : new int[] {0, 0, 1, 1});
        }
    }

    /** "all that have a point with ..": a line may have one without a place in it, and its box may be in it without one. */
    private static void windowsAndLines() {
        String line = "LINESTRING(0 0,10 10,20 10)";
        window(line, "0 0 0 0", 1);
        window(line, "5 5 5 5", 1);
        window(line, "5 4 5 4", 0);
        window(line, "4 5 6 6", 1);
        window(line, "2 4 4 6", 1);
        window(line, "2 5 4 6", 0);
        window(line, "6 2 8 6", 1);
        window(line, "6 2 8 5", 0);
        window(line, "12 8 14 9", 0);
        window(line, "12 8 14 10", 1);
        window(line, "20 10 21 12", 1);
        window(line, "21 10 22 12", 0);
        window(line, "-5 -5 0 0", 1);
        window(line, "-5 -5 -1 0", 0);
        window(line, "11 11 20 20", 0);
        window("LINESTRING(0 0,7 3)", "3 1 3 2", 1);
        window("LINESTRING(0 0,7 3)", "2 1 2 2", 0);
        window("LINESTRING(0 5,0 9)", "0 6 0 7", 1);
        window("LINESTRING(0 5,0 9)", "0 1 0 4", 0);
        window("LINESTRING(0 5,0 9)", "0 10 0 11", 0);
    }

    /** Around all of it, within it, in its hole, on its rings. */
    private static void windowsAndPolygons() {
        window(HOLED, "-1 -1 11 11", 1);
        window(HOLED, "1 1 2 2", 1);
        window(HOLED, "1 1 1 1", 1);
        window(HOLED, "4 4 6 6", 0);
        window(HOLED, "5 5 5 5", 0);
        window(HOLED, "3 3 7 7", 1);
        window(HOLED, "3 4 6 6", 1);
        window(HOLED, "4 4 6 7", 1);
        window(HOLED, "3 3 3 3", 1);
        window(HOLED, "4 4 8 5", 1);
        window(HOLED, "10 10 12 12", 1);
        window(HOLED, "11 0 12 10", 0);
        window(HOLED, "10 2 12 3", 1);
        window(HOLED, "-3 -3 -1 12", 0);
        // From ring to ring there is no way: these would pass (5, 5).
        window("POLYGON((0 0,10 0,10 10,0 10,0 0),(7 7,3 7,3 3,7 3,7 7))", "4 4 6 6", 0);
        window("POLYGON((0 0,10 0,10 10,0 10,0 0),(7 5,5 3,3 5,5 7,7 5),(1 5,2 4,2 6,1 5))", "5 5 5 5", 0);
        window("POLYGON((0 0,10 0,0 10,0 0))", "6 6 10 10", 0);
        window("POLYGON((0 0,10 0,0 10,0 0))", "5 5 10 10", 1);
        window("POLYGON((0 0,10 0,0 10,0 0))", "4 5 4 5", 1);
        window("POLYGON((0 0,12 0,12 4,4 4,4 8,12 8,12 12,0 12,0 0))", "5 5 14 7", 0);
        window("POLYGON((0 0,12 0,12 4,4 4,4 8,12 8,12 12,0 12,0 0))", "5 5 14 8", 1);
    }

    /** By exact numbers: a window beside a line of great numbers. */
    private static void windowsGreatAndSmall() {
        Desk desk = new Desk();
        desk.dueInts("ADD 1 LINESTRING(-1073741823 -1073741823,1073741823 1073741822);", 0);
        desk.dueInts("WINDOW 0 0 0 0;WINDOW 0 -1 0 0;WINDOW 0 -1 0 -1;WINDOW -1 0 0 0;WINDOW 0 0 1 0;", 0, 0, 0, 1, 1, 0, 0, 0, 0, 0, 1, 1);
        desk.dueInts("WINDOW 1073741823 1073741823 1073741823 1073741823;WINDOW 1073741823 1073741822 1073741823 1073741822;", 0, 0, 0, 1, 1);
        desk.dueInts("WINDOW -1073741823 -1073741822 1073741822 1073741823;", 0, 1, 1);
    }

    /** "the k with the least DISTANCE to (x, y), or all, if there are fewer .. 5 (k not 1 .. 200)". */
    private static void nearHowMany() {
        Desk desk = new Desk();
        desk.dueInts("ADD 4 POINT(4 0);ADD 3 POINT(3 0);ADD 6 POINT(-6 0);", 0, 0, 0);
        desk.dueInts("NEAR 0 0 0;NEAR -1 0 0;NEAR 201 0 0;NEAR 1073741823 0 0;NEAR -1073741823 0 0;", 5, 5, 5, 5, 5);
        desk.dueInts("NEAR 1 0 0;NEAR 2 0 0;NEAR 3 0 0;NEAR 4 0 0;NEAR 200 0 0;", 0, 1, 3, 0, 2, 3, 4, 0, 3, 3, 4, 6, 0, 3, 3, 4, 6, 0, 3, 3, 4, 6);
        desk.dueInts("NEAR 1 1073741823 1073741823;NEAR 1 -1073741823 0;", 0, 1, 4, 0, 1, 6);
        Desk full = new Desk();
        full.dueInts("FILL 1 100 POINTS 0 0 1000 1;FILL 101 100 POINTS 0 0 1000 2;", 0, 0);
        full.say("NEAR 200 5 5;");
        Desk.due("outputs", full.base.outputs(), 202);
        Desk.due("n", full.base.out(1), 200);
        full.say("NEAR 199 5 5;");
        Desk.due("n", full.base.out(1), 199);
    }

    /** "by DISTANCE, alike ones by id": whatever the order they came in. */
    private static void nearAlikeOnes() {
        Desk desk = new Desk();
        desk.dueInts("ADD 50 POINT(5 0);ADD 10 POINT(-3 -4);ADD 30 LINESTRING(-9 5,9 5);ADD 20 LINESTRING(3 4,30 40);ADD 40 POINT(0 -5);", 0, 0, 0, 0, 0);
        desk.dueInts("ADD 45 POLYGON((-5 9,-5 -9,-20 0,-5 9));ADD 5 POINT(5 1);ADD 60 POINT(0 4);", 0, 0, 0);
        desk.dueInts("NEAR 200 0 0;", 0, 8, 60, 10, 20, 30, 40, 45, 50, 5);
        desk.dueInts("NEAR 3 0 0;NEAR 2 0 0;NEAR 7 0 0;", 0, 3, 60, 10, 20, 0, 2, 60, 10, 0, 7, 60, 10, 20, 30, 40, 45, 50);
        Desk.due("alike", desk.base.nearer(50, 30, 0, 0), 0);
        // A move leaves the id's turn as it is.
        desk.dueInts("MOVE 60 0 1;NEAR 3 0 0;", 0, 0, 3, 10, 20, 30);
    }

    private static void nearer(String a, String b, int x, int y, int want) {
        Desk desk = new Desk();
        desk.dueInts("ADD 1 " + a + ";ADD 2 " + b + ";", 0, 0);
        int oracle = Oracle.distance(Figure.of(a), x, y).compareTo(Oracle.distance(Figure.of(b), x, y));
        Desk.due("the oracle says of " + a + " and " + b, oracle, want);
        Desk.due("nearer " + a + " or " + b, desk.base.nearer(1, 2, x, y), want);
        Desk.due("nearer " + b + " or " + a, desk.base.nearer(2, 1, x, y), -want);
        desk.dueInts("NEAR 2 " + x + " " + y + ";", want > 0 ? new int[] {0, 2, 2, 1} : new int[] {0, 2, 1, 2});
    }

    /** "(0 for a point of it)": of its ways, its rings, its inside. */
    private static void distanceIsNought() {
        nearer("POINT(5 5)", "LINESTRING(0 0,9 9)", 5, 5, 0);
        nearer("POINT(5 5)", "LINESTRING(5 5,9 9)", 5, 5, 0);
        nearer("POINT(5 5)", "LINESTRING(0 0,3 1,5 5)", 5, 5, 0);
        nearer("POINT(5 5)", "POLYGON((0 0,9 0,9 9,0 9,0 0))", 5, 5, 0);
        nearer("POINT(5 3)", HOLED, 5, 3, 0);
        nearer("POINT(3 3)", HOLED, 3, 3, 0);
        nearer("POINT(0 0)", HOLED, 0, 0, 0);
        nearer("POINT(1 5)", HOLED, 1, 5, 0);
        nearer("POINT(5 5)", HOLED, 5, 5, -1);
        nearer("POINT(11 5)", HOLED, 11, 5, -1);
        nearer("LINESTRING(0 0,1073741823 1073741822)", "POINT(5 5)", 5, 5, 1);
    }

    /** The nearest point may be a place or between two; at the very end of a way it is the place. */
    private static void distanceOfLines() {
        String line = "LINESTRING(0 0,10 0)";
        nearer(line, "POINT(5 6)", 5, 3, 0);
        nearer(line, "POINT(5 5)", 5, 3, 1);
        nearer(line, "POINT(5 7)", 5, 3, -1);
        nearer(line, "POINT(10 6)", 10, 3, 0);
        nearer(line, "POINT(16 8)", 13, 4, 0);
        nearer(line, "POINT(16 9)", 13, 4, -1);
        nearer(line, "POINT(13 9)", 13, 4, 0);
        nearer(line, "POINT(-3 9)", -3, 4, 0);
        nearer(line, "POINT(12 0)", 11, 0, 0);
        nearer(line, "POINT(-3 0)", -1, 0, -1);
        nearer("LINESTRING(0 0,10 10)", "POINT(8 5)", 8, 4, 1);
        nearer("LINESTRING(0 0,10 10)", "LINESTRING(0 -2,10 -12)", 6, 0, -1);
        nearer("LINESTRING(0 0,10 10)", "LINESTRING(0 0,10 -10)", 6, 0, 0);
        nearer("LINESTRING(0 0,4 0,4 9)", "LINESTRING(10 0,10 9)", 7, 4, 0);
        nearer("LINESTRING(0 9,0 0,9 0,0 9)", "POINT(2 2)", 2, 2, 1);
    }

    private static void distanceOfPolygons() {
        nearer("POLYGON((0 0,9 0,9 9,0 9,0 0))", "POINT(20 20)", 5, 5, -1);
        nearer("POLYGON((0 0,9 0,9 9,0 9,0 0))", "POINT(5 6)", 5, 5, -1);
        // From ring to ring there is no way: these would pass (5, 5).
        nearer("POLYGON((0 0,10 0,10 10,0 10,0 0),(7 7,3 7,3 3,7 3,7 7))", "POINT(5 6)", 5, 5, 1);
        nearer("POLYGON((0 0,10 0,10 10,0 10,0 0),(7 5,5 3,3 5,5 7,7 5),(1 5,2 4,2 6,1 5))", "POINT(6 5)", 5, 5, 1);
        nearer(HOLED, "POINT(5 7)", 5, 5, 0);
        nearer(HOLED, "POINT(4 5)", 5, 5, 1);
        nearer(HOLED, "POINT(2 5)", 5, 5, -1);
        nearer(HOLED, "POINT(13 14)", 13, 14, 1);
        nearer(HOLED, "POINT(16 18)", 13, 14, 0);
        nearer(HOLED, "POLYGON((14 0,20 0,20 10,14 0))", 12, 0, 0);
        nearer("POLYGON((0 0,12 0,12 4,4 4,4 8,12 8,12 12,0 12,0 0))", "POINT(8 8)", 8, 6, 0);
        nearer("POLYGON((0 0,12 0,12 4,4 4,4 8,12 8,12 12,0 12,0 0))", "POINT(8 7)", 8, 6, 1);
    }

    /** "as an exact number": alike ones of great numbers, and ones that differ by less than a double can tell. */
    private static void distancesExact() {
        String down = "LINESTRING(-1073741823 -1073741823,1073741823 1073741822)";
        String mirrored = "LINESTRING(-1073741823 -1073741823,1073741822 1073741823)";
        nearer(down, mirrored, 0, 0, 0);
        nearer(down, mirrored, 1000000000, 1000000000, 0);
        nearer(down, mirrored, -GREATEST, GREATEST, 1);
        nearer(down, mirrored, GREATEST, -GREATEST, -1);
        nearer(down, mirrored, 1, 0, -1);
        nearer(down, mirrored, 0, 1, 1);
        nearer("LINESTRING(-1073741823 1073741823,1073741823 -1073741823)", "LINESTRING(-1073741823 1073741823,1073741823 -1073741822)",
            -GREATEST, -GREATEST, -1);
        nearer("LINESTRING(-1073741823 1073741823,1073741823 -1073741823)", "LINESTRING(-1073741823 1073741823,1073741822 -1073741823)",
            -GREATEST, -GREATEST, 1);
        nearer("POINT(1073741823 1073741823)", "POINT(1073741823 1073741822)", -GREATEST, -GREATEST, 1);
        nearer("POINT(1073741823 -1073741823)", "POINT(-1073741823 1073741823)", -GREATEST, -GREATEST, 0);
        nearer("POINT(1 1)", "LINESTRING(2 0,0 2)", 0, 0, 0);
        // 1/2 and 1; a half of an odd square and whole ones beside it
        nearer("LINESTRING(1 0,0 1)", "POINT(0 1)", 0, 0, -1);
        nearer("LINESTRING(1000000001 0,0 1000000001)", "POINT(500000000 500000001)", 0, 0, -1);
        nearer("LINESTRING(1000000001 0,0 1000000001)", "POINT(500000000 500000000)", 0, 0, 1);
        nearer("LINESTRING(-1073741823 -1073741822,1073741823 1073741820)", "LINESTRING(-1073741823 -1073741822,1073741822 1073741819)", 3, 5, -1);
    }

    /** What was asked ahead leaves no trace. */
    private static void distancesOneByOne() {
        Desk desk = new Desk();
        desk.dueInts("ADD 1 POLYGON((0 0,9 0,9 9,0 9,0 0));ADD 2 POINT(5 5);ADD 3 POINT(40 0);ADD 4 LINESTRING(0 20,20 20);", 0, 0, 0, 0);
        desk.dueInts("NEAR 4 100 100;NEAR 4 5 5;NEAR 4 40 0;NEAR 4 4 4;", 0, 4, 4, 3, 1, 2, 0, 4, 1, 2, 4, 3, 0, 4, 3, 4, 1, 2, 0, 4, 1, 2, 4, 3);
        Desk.due("far", desk.base.nearer(3, 4, -900, 70), 1);
        Desk.due("in it", desk.base.nearer(1, 2, 5, 5), 0);
        Desk.due("in it", desk.base.nearer(1, 2, 4, 5), -1);
        Desk.due("in it", desk.base.nearer(2, 1, 4, 5), 1);
        Desk.due("far", desk.base.nearer(4, 3, -900, 70), -1);
        Desk.due("in it", desk.base.nearer(2, 1, 4, 5), 1);
    }

    /** "5 (b below a, d below c, or b - a or d - c above 63)". */
    private static void joinRanges() {
        Desk desk = new Desk();
        desk.dueInts("ADD 1 POINT(0 0);ADD 64 POINT(0 0);ADD 65 POINT(0 0);", 0, 0, 0);
        desk.dueInts("JOIN WITHIN 1 1 64 64;JOIN WITHIN 1 0 64 64;JOIN WITHIN 1 1 64 63;", 0, 1, 1, 64, 5, 5);
        desk.dueInts("JOIN WITHIN 1 64 64 64;JOIN WITHIN 1 65 64 64;", 0, 1, 1, 64, 5);
        desk.dueInts("JOIN WITHIN 64 64 1 64;JOIN WITHIN 64 64 1 65;", 0, 1, 64, 1, 5);
        desk.dueInts("JOIN WITHIN 1 64 2 65;", 0, 3, 1, 64, 1, 65, 64, 65);
        desk.dueInts("JOIN WITHIN 2 63 1 64;JOIN WITHIN 2 64 2 65;JOIN WITHIN 66 129 1 64;", 0, 0, 0, 1, 64, 65, 0, 0);
        desk.dueInts("JOIN WITHIN -62 1 2 65;JOIN WITHIN -63 1 2 65;JOIN WITHIN -63 0 2 65;", 0, 2, 1, 64, 1, 65, 5, 0, 0);
        desk.dueInts("JOIN WITHIN -1073741823 1073741823 1 1;JOIN WITHIN 1 1 -1073741823 1073741823;", 5, 5);
        desk.dueInts("JOIN WITHIN 1073741823 -1073741823 1 1;JOIN WITHIN 1073741760 1073741823 1 1;JOIN WITHIN 1073741759 1073741823 1 1;", 5, 0, 0, 5);
    }

    /** "a LIVE id from a to b and another LIVE one": never one with itself. */
    private static void joinAnother() {
        Desk desk = new Desk();
        desk.dueInts("ADD 5 POINT(0 0);", 0);
        for (String relation : new String[] {"INTERSECTS", "DISJOINT", "TOUCHES", "WITHIN", "CONTAINS"}) {
            desk.dueInts("JOIN " + relation + " 5 5 5 5;JOIN " + relation + " 1 64 1 64;", 0, 0, 0, 0);
        }
        desk.dueInts("ADD 6 POINT(0 0);JOIN WITHIN 5 6 5 6;DROP 5;JOIN WITHIN 5 6 5 6;", 0, 0, 2, 5, 6, 6, 5, 0, 0, 0);
    }

    /** "of which the first is in that RELATION to the second: by the first, then the second; n pairs, 2 n ints". */
    private static void joinOrder() {
        Desk desk = new Desk();
        desk.dueInts("ADD 30 POINT(1 1);ADD 20 POLYGON((0 0,4 0,4 4,0 4,0 0));ADD 10 POINT(2 2);ADD 15 POLYGON((0 0,9 0,9 9,0 9,0 0));ADD 40 POINT(20 20);",
            0, 0, 0, 0, 0);
        desk.dueInts("JOIN WITHIN 1 40 1 40;", 0, 5, 10, 15, 10, 20, 20, 15, 30, 15, 30, 20);
        desk.dueInts("JOIN CONTAINS 1 40 1 40;", 0, 5, 15, 10, 15, 20, 15, 30, 20, 10, 20, 30);
        desk.dueInts("JOIN WITHIN 15 40 10 15;JOIN CONTAINS 15 40 10 15;", 0, 2, 20, 15, 30, 15, 0, 2, 15, 10, 20, 10);
        desk.dueInts("JOIN DISJOINT 40 40 10 30;JOIN DISJOINT 10 30 40 40;", 0, 4, 40, 10, 40, 15, 40, 20, 40, 30, 0, 4, 10, 40, 15, 40, 20, 40, 30, 40);
    }

    /** A base whose tape of two joins and some windows leaves room for so many ints. */
    private static Desk crowd() {
        Desk desk = new Desk();
        desk.dueInts("FILL 1 64 POINTS 0 0 1000000 3;FILL 100 64 POINTS 2000000 0 1000000 4;FILL 200 20 POINTS 5000000 0 100 4;", 0, 0, 0);
        return desk;
    }

    private static String ahead(int left) {
        // 2 + 2 * 4096 ints each
        StringBuilder text = new StringBuilder("JOIN DISJOINT 1 64 100 163;JOIN DISJOINT 1 64 100 163;");
        int ints = 19000 - 2 * 8194 - left;
        while (ints >= 150) {
            text.append("NEAR 148 0 0;");
            ints -= 150;
        }
        if (ints >= 3) {
            text.append("NEAR ").append(ints - 2).append(" 0 0;");
            ints = 0;
        }
        return text + "PACK;".repeat(ints);
    }

    private static void dueTail(Desk desk, String text, int from, int... want) {
        desk.say(text);
        Desk.due("wrong() behind " + from, desk.base.wrong(), -1);
        Desk.due("outputs() of " + text, desk.base.outputs(), from + want.length);
        for (int i = 0; i < want.length; i++) {
            Desk.due("out " + (from + i), desk.base.out(from + i), want[i]);
        }
        Desk.due("out behind", desk.base.out(from + want.length), 0);
        Desk.due("the first n", desk.base.out(1), 4096);
    }

    /** "7 (INTS: n and the answers would bring these, with the 0, above 19000)": of each question, at 19000 and one above. */
    private static void upTo19000() {
        String[] questions = {"FIND INTERSECTS " + "POLYGON((5000000 -9,5000200 -9,5000200 200,5000000 200,5000000 -9));",
            "WINDOW 5000000 0 5000200 200;", "NEAR 20 6000000 0;"};
        for (int q = 0; q < 3; q++) {
            Desk desk = crowd();
            desk.say(ahead(22) + questions[q]);
            Desk.due("19000 by " + questions[q], desk.base.outputs(), 19000);
            Desk.due("its 0", desk.base.out(18978), 0);
            Desk.due("its n", desk.base.out(18979), 20);
            Desk.due("its last", desk.base.out(18999) >= 200, true);
            dueTail(desk, ahead(21) + questions[q], 18979, 7);
            dueTail(desk, ahead(0) + questions[q], 19000, 7);
        }
        Desk desk = crowd();
        // One pair is 4 ints.
        desk.dueInts("ADD 190 POINT(9000000 9000000);ADD 191 POINT(9000000 9000000);", 0, 0);
        dueTail(desk, ahead(4) + "JOIN INTERSECTS 190 190 191 191;", 18996, 0, 1, 190, 191);
        dueTail(desk, ahead(3) + "JOIN INTERSECTS 190 190 191 191;", 18997, 7);
        dueTail(desk, ahead(2) + "JOIN INTERSECTS 190 190 191 191;JOIN TOUCHES 190 190 191 191;", 18998, 7, 7);
        dueTail(desk, ahead(2) + "JOIN TOUCHES 190 190 191 191;", 18998, 0, 0);
        dueTail(desk, ahead(1) + "JOIN TOUCHES 190 190 191 191;", 18999, 7);
        dueTail(desk, ahead(0) + "JOIN TOUCHES 190 190 191 191;", 19000, 7);
        Desk far = crowd();
        // A third join goes far beyond, and what comes behind it has its room.
        far.say("NEAR 1 6000000 0;");
        dueTail(far, ahead(100) + "JOIN DISJOINT 1 64 100 163;NEAR 1 6000000 0;", 18900, 7, 0, 1, far.base.out(2));
    }

    /** 7 comes last; and only questions are REFUSED by it: all others put their int OUT. */
    private static void full() {
        Desk desk = crowd();
        dueTail(desk, ahead(0) + "NEAR 0 0 0;NEAR 1 0 0;WINDOW 1 1 0 0;WINDOW 0 0 1 1;", 19000, 5, 7, 5, 7);
        dueTail(desk, ahead(0) + "JOIN WITHIN 2 1 1 1;JOIN WITHIN 1 1 1 1;FIND WITHIN LINESTRING(0 0);FIND WITHIN POINT(-5 -5);", 19000, 5, 7, 3, 7);
        dueTail(desk, ahead(1) + "FIND WITHIN LINESTRING(0 0" + ",1 1,0 0".repeat(20) + ");FIND WITHIN POINT(-5 -5);", 18999, 4, 7);
        dueTail(desk, ahead(0) + "PACK;BEGIN;DROP 1;DROP 1;ABORT;SAVE;ADD 0 POINT(0 0);MOVE 1 0 0;", 19000, 0, 0, 0, 2, 0, 0, 5, 0);
        Desk most = crowd();
        String text = ahead(0);
        text = text + "PACK;".repeat((4000 - text.length()) / 5);
        int more = (4000 - ahead(0).length()) / 5;
        Desk.due("run of a full tape behind 19000 ints", most.say(text) > more, true);
        Desk.due("outputs", most.base.outputs(), 19000 + more);
        Desk.due("out", most.base.out(18999 + more), 0);
    }
}
