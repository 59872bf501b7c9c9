/** The edges of the arguments of each call, promise by promise, in every state that a base may be in. */
public final class CallEdgesTest {
    private static final int GREATEST = 1073741823;
    private static final int[] EDGES = {Integer.MIN_VALUE, Integer.MIN_VALUE + 1, -GREATEST - 1, -GREATEST, -10000, -9999, -201, -41, -3, -2,
        -1, 0, 1, 2, 3, 4, 5, 6, 7, 8, 9, 10, 11, 39, 40, 41, 63, 64, 65, 199, 200, 201, 255, 256, 257, 511, 999, 1000, 1001, 4000, 9998, 9999,
        10000, 65537, 16777217, GREATEST, GREATEST + 1, Integer.MAX_VALUE - 1, Integer.MAX_VALUE};
    private static final String SHAPES = "ADD 1 POINT(5 -6);ADD 2 LINESTRING(1 2,3 4,1 2);"
        + "ADD 9999 POLYGON((0 0,10 0,10 10,0 10,0 0),(4 4,6 4,6 6,4 6,4 4));";

    public static void main(String[] args) {
        newObject();
        feedInOrder();
        feedIsFull();
        endOfAny();
        endTwice();
        endOfAFullTape();
        runTwice();
        wrongOfTheLatest();
        outOfAny();
        crashOfAny();
        idAtOfAny();
        idsOfAny();
        atOfAny();
        relateOfAny();
        nearerOfAny();
        downBases();
        usedAndSaves();
        flawsOfAny();
        manyCalls();
        Desk.finish();
    }

    private static Desk three() {
        Desk desk = new Desk();
        desk.dueInts(SHAPES, 0, 0, 0);
        return desk;
    }

    private static Desk fallen() {
        Desk desk = three();
        desk.base.crash(1, 1, 0);
        desk.say("PACK;DROP 5;SAVE;");
        Desk.due("isDown", desk.base.isDown(), true);
        return desk;
    }

    /** Promise 1: "with nothing in it", whatever is asked first. */
    private static void newObject() {
        for (int edge : EDGES) {
            LandBase base = new LandBase();
            Desk.due("out", base.out(edge), 0);
            Desk.due("idAt", base.idAt(edge), -1);
            Desk.due("kindOf", base.kindOf(edge), -1);
            Desk.due("places", base.places(edge), -1);
            Desk.due("rings", base.rings(edge), -1);
            Desk.due("at", base.at(edge, 0, 0), 0);
            Desk.due("relate", base.relate(0, edge, edge), -1);
            Desk.due("nearer", base.nearer(edge, edge, 0, 0), -2);
            Desk.due("end", base.end(edge), edge == 40 ? 0 : -1);
        }
        LandBase base = new LandBase();
        Desk.due("live", base.live(), 0);
        Desk.due("outputs", base.outputs(), 0);
        Desk.due("wrong", base.wrong(), -1);
        Desk.due("used", base.used(), 0);
        Desk.due("saves", base.saves(), 0);
        Desk.due("flaws", base.flaws(), 0);
        Desk.due("isDown", base.isDown(), false);
        Desk.due("isOpen", base.isOpen(), false);
        Desk.due("recover", base.recover(), 0);
        Desk.due("run", base.run(), 0);
        Desk.due("crash", base.crash(0, 1, 0), true);
    }

    /** Promise 2: "The 8 bytes of each, the highest first, come behind the TAPE": each of the 40 in its place. */
    private static void feedInOrder() {
        LandBase base = new LandBase();
        // "FILL 12 3 SQUARES -405 67 89 1011;PACK;?": each byte but the last in its own place
        Desk.due("feed", base.feed(0x46494c4c20313220L, 0x3320535155415245L, 0x53202d3430352036L, 0x3720383920313031L, 0x313b5041434b3b3fL), 40);
        Desk.due("run", base.run(), 2);
        Desk.due("wrong", base.wrong(), 39);
        Desk.due("idAt(2)", base.idAt(2), 14);
        int s = 1011 * 1103515245 + 12345;
        Desk.due("x", base.at(12, 0, 0), -405 + (s >>> 8) % 89);
        s = s * 1103515245 + 12345;
        Desk.due("y", base.at(12, 0, 1), 67 + (s >>> 8) % 89);
        for (int i = 0; i < 40; i++) {
            LandBase other = new LandBase();
            long[] parts = new long[5];
            for (int j = 0; j < 40; j++) {
                parts[j / 8] = parts[j / 8] << 8 | (j == i ? 0xFF : 0x20);
            }
            Desk.due("feed", other.feed(0x2020202020202020L, 0x2020202020202020L, 0x2020202020202020L, 0x2020202020202020L, 0x2020202020202020L), 40);
            Desk.due("feed", other.feed(parts[0], parts[1], parts[2], parts[3], parts[4]), 80);
            Desk.due("run", other.run(), 0);
            Desk.due("the byte " + i, other.wrong(), 40 + i);
        }
    }

    private static int blank(LandBase base) {
        long b = 0x2020202020202020L;
        return base.feed(b, b, b, b, b);
    }

    /** Promise 2: "BAD if it would be above 4000 (nothing comes)": at 3960, at 3961, at 4000. */
    private static void feedIsFull() {
        LandBase base = new LandBase();
        for (int i = 1; i <= 99; i++) {
            blank(base);
        }
        Desk.due("at 3960", blank(base), 4000);
        Desk.due("at 4000", base.feed(-1, -1, -1, -1, -1), -1);
        Desk.due("again", base.feed(-1, -1, -1, -1, -1), -1);
        Desk.due("how long", base.end(40), 4000);
        Desk.due("end(1)", base.end(1), 3961);
        Desk.due("at 3961", base.feed(-1, -1, -1, -1, -1), -1);
        Desk.due("end(39)", base.end(39), 3960);
        Desk.due("at 3960", blank(base), 4000);
        Desk.due("run", base.run(), 0);
        Desk.due("nothing came", base.wrong(), -1);
        Desk.due("at 0", blank(base), 40);
    }

    /** Promise 3: "BAD if n is not 0 .. 40, or the TAPE has fewer than 40 - n". */
    private static void endOfAny() {
        for (int edge : EDGES) {
            LandBase base = new LandBase();
            blank(base);
            blank(base);
            boolean isGood = edge >= 0 && edge <= 40;
            Desk.due("end " + edge, base.end(edge), isGood ? 40 + edge : -1);
            Desk.due("how long then", base.end(40), isGood ? 40 + edge : 80);
        }
        for (int n = 0; n <= 40; n++) {
            LandBase base = new LandBase();
            blank(base);
            Desk.due("end " + n, base.end(n), n);
            // 40 - m of n bytes go
            int m = 40 - n;
            Desk.due("one too many", base.end(m - 1), -1);
            Desk.due("all of them", base.end(m), 0);
            Desk.due("none is left", base.end(39), -1);
        }
    }

    /** Promise 3: "Of the latest 40 bytes the first n stay": of those that are there then, again and again. */
    private static void endTwice() {
        Desk desk = new Desk();
        desk.type("PACK;PACK;PACK;PACK;PACK;PACK;PACK;PACK;");
        desk.type("PACK;PACK;PACK;PACK;PACK;PACK;PACK;PACK;");
        Desk.due("end(35)", desk.base.end(35), 75);
        Desk.due("end(0)", desk.base.end(0), 35);
        Desk.due("end(0) of 35", desk.base.end(0), -1);
        Desk.due("end(4) of 35", desk.base.end(4), -1);
        Desk.due("end(15)", desk.base.end(15), 10);
        Desk.due("run", desk.base.run(), 2);
        Desk.due("end(39) of nothing", desk.base.end(39), -1);
        Desk.due("end(40) of nothing", desk.base.end(40), 0);
        // What went does not come back.
        desk.type("PACK;PACK;PACK;PACK;PACK;PACK;PACK;PACK;");
        desk.base.end(5);
        desk.type("DROP 1;");
        Desk.due("run", desk.base.run(), 2);
        desk.dueOut("the latter behind the former", 0, 2);
    }

    private static void endOfAFullTape() {
        Desk desk = new Desk();
        Desk.due("full", desk.type("PACK;".repeat(800)), 4000);
        Desk.due("end(0)", desk.base.end(0), 3960);
        Desk.due("end(20)", desk.base.end(20), 3940);
        Desk.due("run", desk.base.run(), 788);
    }

    /** Promise 4: "Does the TAPE, which is empty then": nothing is done twice. */
    private static void runTwice() {
        Desk desk = new Desk();
        Desk.due("run", desk.say("ADD 1 POINT(1 1);MOVE 1 1 1;"), 2);
        Desk.due("run again", desk.base.run(), 0);
        Desk.due("x", desk.base.at(1, 0, 0), 2);
        Desk.due("refused ones count", desk.say("DROP 7;ADD 1 POINT(1 1);NEAR 0 0 0;COMMIT;"), 4);
        Desk.due("a wrong one", desk.say("MOVE 1 1 1;MOVE;MOVE 1 1 1;"), 1);
        Desk.due("the rest is gone", desk.base.run(), 0);
        Desk.due("x", desk.base.at(1, 0, 0), 3);
        Desk.due("behind it comes a new tape", desk.say("MOVE 1 1 1;"), 1);
        Desk.due("wrong", desk.base.wrong(), -1);
    }

    /** Promise 5: "of the latest run() that was not BAD"; "-1 if it was not, or fell". */
    private static void wrongOfTheLatest() {
        Desk desk = three();
        desk.dueWrong("PACK;PACK!", 1, 9);
        desk.type("???");
        Desk.due("a new tape is not read yet", desk.base.wrong(), 9);
        desk.base.end(37);
        desk.dueWrong("PACK;", 1, -1);
        desk.dueWrong("?", 0, 0);
        Desk.due("an empty run", desk.base.run(), 0);
        Desk.due("wrong", desk.base.wrong(), -1);
        desk.dueWrong("PACK;(", 1, 5);
        desk.base.crash(1, 1, 0);
        desk.dueWrong("PACK;SAVE;?", 1, -1);
        desk.dueWrong("?", -1, -1);
        desk.base.recover();
        desk.dueWrong("", 0, 0);
        Desk.due("what was fed while it was down", desk.base.wrong(), 0);
    }

    /** Promises 6 and 7: "The i-th of them; 0 for another one." */
    private static void outOfAny() {
        Desk desk = three();
        desk.say("DROP 77;DROP 78;NEAR 3 5 5;");
        Desk.due("outputs", desk.base.outputs(), 7);
        int[] want = {2, 2, 0, 3, 9999, 2, 1};
        for (int edge : EDGES) {
            Desk.due("out " + edge, desk.base.out(edge), edge >= 0 && edge < 7 ? want[edge] : 0);
        }
        desk.say("DROP 77;");
        for (int edge : EDGES) {
            Desk.due("out " + edge, desk.base.out(edge), edge == 0 ? 2 : 0);
        }
        desk.base.run();
        Desk.due("none", desk.base.outputs(), 0);
        Desk.due("out(0)", desk.base.out(0), 0);
    }

    /** Promise 8: "whether kind is 0 or 1, n 1 .. 1000, t 0 .. 200 .. and it is not DOWN". */
    private static void crashOfAny() {
        for (int edge : EDGES) {
            LandBase base = new LandBase();
            Desk.due("kind " + edge, base.crash(edge, 1, 0), edge == 0 || edge == 1);
            Desk.due("n " + edge, base.crash(0, edge, 200), edge >= 1 && edge <= 1000);
            Desk.due("n " + edge, base.crash(1, edge, 0), edge >= 1 && edge <= 1000);
            Desk.due("t " + edge, base.crash(0, 1000, edge), edge >= 0 && edge <= 200);
            Desk.due("t " + edge, base.crash(1, 1, edge), edge >= 0 && edge <= 200);
        }
        Desk desk = fallen();
        Desk.due("while it is down", desk.base.crash(0, 1, 0), false);
        Desk.due("while it is down", desk.base.crash(1, 1000, 200), false);
        desk.base.recover();
        Desk.due("then", desk.base.crash(0, 1, 0), true);
        Desk refused = new Desk();
        // Refused ones count not.
        refused.base.crash(2, 1, 0);
        refused.base.crash(0, 0, 0);
        refused.base.crash(0, -1, 0);
        refused.base.crash(0, 1, 201);
        refused.base.crash(1, 1001, 0);
        refused.base.crash(1, 1, -1);
        refused.dueInts("ADD 1 POINT(1 1);SAVE;", 0, 0);
    }

    /** Promise 13: "The i-th LIVE id, rising; BAD for another." */
    private static void idAtOfAny() {
        Desk desk = three();
        int[] ids = {1, 2, 9999};
        for (int edge : EDGES) {
            Desk.due("idAt " + edge, desk.base.idAt(edge), edge >= 0 && edge < 3 ? ids[edge] : -1);
        }
        Desk full = new Desk();
        full.dueInts("FILL 9900 100 POINTS 0 0 5 5;FILL 1 100 POINTS 0 0 5 5;", 0, 0);
        for (int edge : EDGES) {
            Desk.due("idAt " + edge, full.base.idAt(edge), edge < 0 || edge > 199 ? -1 : edge < 100 ? edge + 1 : 9800 + edge);
        }
        full.dueInts("DROP 9999;", 0);
        Desk.due("idAt(199)", full.base.idAt(199), -1);
        Desk.due("idAt(198)", full.base.idAt(198), 9998);
    }

    /** Promises 14, 15 and 16: "BAD if it is not LIVE". */
    private static void idsOfAny() {
        Desk desk = three();
        for (int edge : EDGES) {
            int row = edge == 1 ? 0 : edge == 2 ? 1 : edge == 9999 ? 2 : 3;
            Desk.due("kindOf " + edge, desk.base.kindOf(edge), new int[] {0, 1, 2, -1}[row]);
            Desk.due("places " + edge, desk.base.places(edge), new int[] {1, 3, 10, -1}[row]);
            Desk.due("rings " + edge, desk.base.rings(edge), new int[] {1, 1, 2, -1}[row]);
        }
        desk.dueInts("BEGIN;DROP 1;ADD 3 POINT(0 0);", 0, 0, 0);
        Desk.due("dropped in a transaction", desk.base.kindOf(1), -1);
        Desk.due("added in a transaction", desk.base.kindOf(3), 0);
        desk.dueInts("ABORT;", 0);
        Desk.due("dropped and aborted", desk.base.places(1), 1);
        Desk.due("added and aborted", desk.base.rings(3), -1);
    }

    /** Promise 17: "0 for another place or part, or if it is not LIVE, or DOWN". */
    private static void atOfAny() {
        Desk desk = three();
        int[] xs = {0, 10, 10, 0, 0, 4, 6, 6, 4, 4};
        int[] ys = {0, 0, 10, 10, 0, 4, 4, 6, 6, 4};
        for (int edge : EDGES) {
            boolean isPlace = edge >= 0 && edge < 10;
            Desk.due("x " + edge, desk.base.at(9999, edge, 0), isPlace ? xs[edge] : 0);
            Desk.due("y " + edge, desk.base.at(9999, edge, 1), isPlace ? ys[edge] : 0);
            Desk.due("part " + edge, desk.base.at(1, 0, edge), edge == 0 ? 5 : edge == 1 ? -6 : 0);
            Desk.due("id " + edge, desk.base.at(edge, 1, 1), edge == 2 ? 4 : 0);
        }
        Desk.due("a place behind a point's only one", desk.base.at(1, 1, 0), 0);
        Desk.due("a place behind a line's last one", desk.base.at(2, 3, 0), 0);
        // Longer shapes that stood there before leave nothing behind.
        desk.dueInts("DROP 9999;ADD 9999 POINT(8 8);", 0, 0);
        for (int i = 1; i < 10; i++) {
            Desk.due("at " + i, desk.base.at(9999, i, 0), 0);
        }
    }

    /** Promise 18: "BAD if one is not LIVE, or for another rel. a may be b." */
    private static void relateOfAny() {
        Desk desk = three();
        for (int edge : EDGES) {
            boolean isLive = edge == 1 || edge == 2 || edge == 9999;
            Desk.due("rel " + edge, desk.base.relate(edge, 1, 1), edge < 0 || edge > 4 ? -1 : edge == 1 || edge == 2 ? 0 : 1);
            Desk.due("a " + edge, desk.base.relate(0, edge, 2) >= 0, isLive);
            Desk.due("b " + edge, desk.base.relate(1, 2, edge) >= 0, isLive);
            Desk.due("both " + edge, desk.base.relate(3, edge, edge), isLive ? 1 : -1);
            Desk.due("rel and id", desk.base.relate(5, edge, edge), -1);
        }
    }

    /** Promise 19: "-2 if one is not LIVE, x or y is beyond 1073741823 in size, or it is DOWN". */
    private static void nearerOfAny() {
        Desk desk = three();
        for (int edge : EDGES) {
            boolean isLive = edge == 1 || edge == 2 || edge == 9999;
            boolean isInPlane = edge >= -GREATEST && edge <= GREATEST;
            Desk.due("a " + edge, desk.base.nearer(edge, 2, 0, 0) > -2, isLive);
            Desk.due("b " + edge, desk.base.nearer(2, edge, 0, 0) > -2, isLive);
            Desk.due("both " + edge, desk.base.nearer(edge, edge, 3, 3), isLive ? 0 : -2);
            Desk.due("x " + edge, desk.base.nearer(1, 1, edge, 0), isInPlane ? 0 : -2);
            Desk.due("y " + edge, desk.base.nearer(1, 1, 0, edge), isInPlane ? 0 : -2);
        }
        Desk.due("less", desk.base.nearer(2, 1, 3, 3), -1);
        Desk.due("more", desk.base.nearer(1, 2, 3, 3), 1);
    }

    /** Promise 12: "BAD while it is DOWN (so do idAt, kindOf, places, rings, relate and used)"; and at, nearer, isOpen, crash, run. */
    private static void downBases() {
        Desk desk = fallen();
        for (int edge : EDGES) {
            Desk.due("idAt", desk.base.idAt(edge), -1);
            Desk.due("kindOf", desk.base.kindOf(edge), -1);
            Desk.due("places", desk.base.places(edge), -1);
            Desk.due("rings", desk.base.rings(edge), -1);
            Desk.due("relate", desk.base.relate(0, edge, edge), -1);
            Desk.due("at", desk.base.at(edge, 0, 0), 0);
            Desk.due("nearer", desk.base.nearer(edge, edge, 0, 0), -2);
        }
        Desk.due("live", desk.base.live(), -1);
        Desk.due("used", desk.base.used(), -1);
        Desk.due("isOpen", desk.base.isOpen(), false);
        Desk.due("isDown", desk.base.isDown(), true);
        Desk.due("saves are told", desk.base.saves(), 0);
        Desk.due("outputs are told", desk.base.outputs(), 2);
        Desk.due("out is told", desk.base.out(1), 2);
        Desk.due("wrong is told", desk.base.wrong(), -1);
        Desk.due("flaws are told", desk.base.flaws(), 0);
        Desk.due("recover", desk.base.recover(), 3);
        Desk.due("live", desk.base.live(), 3);
        Desk.due("used", desk.base.used(), 6);
        // A transaction that was open when it fell
        desk.base.crash(0, 1, 0);
        desk.say("BEGIN;DROP 1;COMMIT;");
        Desk.due("isOpen while it is down", desk.base.isOpen(), false);
        desk.base.recover();
        Desk.due("isOpen then", desk.base.isOpen(), false);
    }

    /** Promises 20 and 21: "COMMITTED since the latest SAVE that was done", "told also while it is DOWN". */
    private static void usedAndSaves() {
        Desk desk = three();
        Desk.due("used", desk.base.used(), 6);
        desk.dueInts("SAVE;DROP 1;", 0, 0);
        Desk.due("used", desk.base.used(), 2);
        Desk.due("saves", desk.base.saves(), 1);
        desk.base.crash(1, 1, 0);
        desk.say("DROP 2;SAVE;");
        Desk.due("saves while it is down", desk.base.saves(), 1);
        desk.base.recover();
        Desk.due("a save that was not done", desk.base.used(), 4);
        desk.dueInts("BEGIN;FILL 3 9 POINTS 0 0 5 5;", 0, 0);
        Desk.due("nothing of it is committed yet", desk.base.used(), 4);
    }

    /** Promise 22: "none", in every state. */
    private static void flawsOfAny() {
        Desk desk = new Desk();
        String[] texts = {"", "?", SHAPES, "BEGIN;DROP 1;", "ABORT;", "BEGIN;DROP 1;MOVE 2 1 1;", "COMMIT;", "PACK;", "SAVE;", "DROP 2;DROP 9999;",
            "FILL 1 100 SQUARES 0 0 90 1;FILL 101 100 LINES 0 0 90 1;", "BEGIN;DROP 100;"};
        for (String text : texts) {
            desk.say(text);
            Desk.due("flaws behind " + text, desk.base.flaws(), 0);
        }
        desk.base.crash(0, 2, 9);
        desk.say("COMMIT;");
        Desk.due("flaws while it is down", desk.base.flaws(), 0);
        desk.base.recover();
        Desk.due("flaws", desk.base.flaws(), 0);
        Desk.due("live", desk.base.live(), 200);
        Desk full = new Desk();
        full.dueInts("ADD 1 POINT(1 1);ADD 9 POINT(1 1);SAVE;", 0, 0, 0);
        full.sayLong("BEGIN;" + Desk.bytes(14112));
        Desk.due("flaws of a full transaction", full.base.flaws(), 0);
        full.dueInts("COMMIT;", 0);
        Desk.due("used", full.base.used(), 64);
        Desk.due("flaws of a full log", full.base.flaws(), 0);
    }

    /** "An object is used for at most 512 calls": all of these hold. */
    private static void manyCalls() {
        Desk desk = new Desk();
        String text = "BEGIN;FILL 1 99 LINES 0 0 99 7;ABORT;FILL 1 100 SQUARES 0 0 9 5;BEGIN;DROP 9;NEAR 1 0 0;COMMIT;BEGIN;FILL 9 1 LINES 0 0 9 9;"
            + "DROP 1;DROP 2;ABORT;MOVE 5 1 1;";
        String padded = text + " ".repeat(160 - text.length());
        int calls = 0;
        int done = 0;
        int x = 0;
        // Four rows of 40 bytes, a run and a question.
        while (calls + 6 <= 504) {
            done += desk.say(padded);
            Desk.due("live", desk.base.live(), 99);
            calls += 6;
            x = calls == 6 ? desk.base.at(5, 0, 0) : x;
        }
        Desk.due("statements done", done, 14 * 84);
        Desk.due("calls", calls, 504);
        Desk.due("moved each time", desk.base.at(5, 0, 0), x + 83);
        Desk.due("flaws", desk.base.flaws(), 0);
    }
}
