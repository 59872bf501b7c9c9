/** The edges of "4 POWER", sentence by sentence: bytes, blocks, the log's room, falls, and coming up again. */
public final class PowerEdgesTest {
    private static final String TWO = "ADD 1 POINT(1 1);ADD 9 POINT(9 9);SAVE;";

    public static void main(String[] args) {
        whatIsCommittedStays();
        bytesOfEach();
        bytesAddUp();
        roomOfEach();
        roomIsOfOneTransaction();
        noRoomOutsideOfOne();
        blocksOfACommit();
        blocksOfGreatOnes();
        logIsFullByOne();
        logIsFullByATransaction();
        saveInstead();
        saveEmptiesTheLog();
        crashInTheNthBlock();
        crashCountsOverCommits();
        crashCountsNoSaves();
        crashInTheNextSave();
        crashInASaveInstead();
        laterCrashCountsAlone();
        crashOfAnyBytes();
        fallEndsTheRun();
        fallIsNotCommitted();
        recoverAtAnyTime();
        recoverForgetsCrashes();
        blocksStayOrLeave();
        whileItIsDown();
        manyFalls();
        Desk.finish();
    }

    private static Desk two() {
        Desk desk = new Desk();
        desk.dueInts(TWO, 0, 0, 0);
        return desk;
    }

    /** "What is COMMITTED outlives a FALL; nothing else does." One by one; by COMMIT, all at once. */
    private static void whatIsCommittedStays() {
        Desk desk = new Desk();
        desk.dueInts("ADD 1 POINT(1 1);FILL 2 3 SQUARES 0 0 50 1;DROP 3;MOVE 4 5 5;BEGIN;ADD 7 LINESTRING(0 0,1 1);MOVE 1 3 3;COMMIT;",
            0, 0, 0, 0, 0, 0, 0, 0);
        String committed = desk.state();
        desk.dueInts("BEGIN;DROP 1;ADD 8 POINT(1 1);MOVE 2 1 1;FILL 20 9 LINES 0 0 5 5;", 0, 0, 0, 0, 0);
        desk.base.crash(0, 1, 0);
        Desk.due("the fall", desk.say("COMMIT;"), 0);
        Desk.due("recover", desk.base.recover(), 4);
        Desk.due("what was committed", desk.state().equals(committed), true);
        desk.dueInts("BEGIN;DROP 1;", 0, 0);
        Desk.due("recover without a fall", desk.base.recover(), 4);
        Desk.due("what was committed", desk.state().equals(committed), true);
    }

    private static void dueBytes(String statement, int count) {
        int next = (count + 48 + 223) / 224 * 224;
        for (int more = 0; more <= 4; more += 4) {
            Desk desk = two();
            desk.dueInts("ADD 7 POINT(0 0);SAVE;", 0, 0);
            desk.say("BEGIN;" + statement + Desk.bytes(next - count + more) + "COMMIT;");
            Desk.due("wrong", desk.base.wrong(), -1);
            Desk.due("blocks of " + statement + " and " + (next - count + more) + " bytes", desk.base.used(), next / 224 + 1 + more / 4);
        }
    }

    private static String ring(int places, int y) {
        StringBuilder text = new StringBuilder("(");
        for (int i = 0; i + 2 < places; i++) {
            text.append(i).append(" ").append(y).append(",");
        }
        return text + "0 " + (y + 1) + ",0 " + y + ")";
    }

    /** "ADD 16 + 4 for each ring (a POINT, a LINESTRING: one) + 8 for each place; DROP 8; MOVE 16; FILL 32." */
    private static void bytesOfEach() {
        dueBytes("ADD 2 POINT(0 0);", 28);
        dueBytes("ADD 2 LINESTRING(0 0,1 1);", 36);
        dueBytes("ADD 2 LINESTRING(0 0" + ",1 1,0 0".repeat(19) + ",1 1);", 340);
        dueBytes("ADD 2 POLYGON(" + ring(4, 0) + ");", 52);
        dueBytes("ADD 2 POLYGON(" + ring(40, 0) + ");", 340);
        String shell = "ADD 2 POLYGON((-1 -1,99 -1,99 99,-1 99,-1 -1),";
        dueBytes(shell + ring(4, 0) + ");", 16 + 8 + 72);
        String six = ring(5, 0) + "," + ring(5, 3) + "," + ring(5, 6) + "," + ring(5, 9) + "," + ring(5, 12) + "," + ring(5, 15);
        dueBytes(shell + six + "," + ring(5, 18) + ");", 16 + 32 + 320);
        dueBytes("DROP 7;", 8);
        dueBytes("MOVE 7 1 1;", 16);
        dueBytes("FILL 2 1 POINTS 0 0 5 5;", 32);
        dueBytes("FILL 20 100 SQUARES 0 0 5 5;", 32);
        dueBytes("BEGIN;SAVE;PACK;DROP 5;NEAR 1 0 0;", 0);
    }

    private static void dueSum(String statements, int count) {
        Desk desk = new Desk();
        desk.sayLong("FILL 1 100 POINTS 0 0 9 9;SAVE;BEGIN;" + statements + "COMMIT;");
        Desk.due("blocks of " + count + " bytes", desk.base.used(), (count + 223) / 224 + 1);
    }

    private static String numbered(String statement, int from, int count) {
        StringBuilder text = new StringBuilder();
        for (int i = from; i < from + count; i++) {
            text.append(statement.replace("#", Integer.toString(i)));
        }
        return text.toString();
    }

    /** "those of a TRANSACTION": the BYTES of each of its statements are summed up. */
    private static void bytesAddUp() {
        String add = "ADD # POINT(0 0);";
        String line = "ADD # LINESTRING(0 0,1 1);";
        String fill = "FILL # 1 POINTS 0 0 5 5;";
        dueSum(numbered(add, 200, 8), 224);
        dueSum(numbered(add, 200, 8) + "DROP 1;", 232);
        dueSum(numbered(line, 200, 56), 2016);
        dueSum(numbered(line, 200, 55) + numbered(add, 300, 1) + "MOVE 1 0 0;DROP 1;", 2032);
        dueSum(numbered("DROP #;", 1, 28), 224);
        dueSum(numbered("DROP #;", 1, 29), 232);
        dueSum(numbered("DROP #;", 1, 84), 672);
        dueSum(numbered("DROP #;", 1, 85), 680);
        dueSum(numbered("MOVE # 1 1;", 1, 14), 224);
        dueSum(numbered("MOVE # 1 1;", 1, 13) + "DROP 14;DROP 15;", 224);
        dueSum(numbered("MOVE # 1 1;", 1, 15), 240);
        dueSum(numbered("MOVE # 1 1;", 1, 42), 672);
        dueSum(numbered(fill, 200, 7), 224);
        dueSum(numbered(fill, 200, 13) + numbered(add, 300, 1) + "DROP 1;", 452);
        dueSum(numbered(fill, 200, 14), 448);
        dueSum(numbered(fill, 200, 14) + "DROP 1;", 456);
    }

    private static void dueRoom(String statement, int count) {
        Desk desk = two();
        desk.sayLong("BEGIN;" + Desk.bytes(14112 - count));
        desk.dueInts(statement, 0);
        desk.dueRefused("MOVE 1 0 0;", 4);
        desk.dueInts("COMMIT;", 0);
        Desk.due("63 blocks and one more", desk.base.used(), 64);
        Desk other = two();
        other.sayLong("BEGIN;" + Desk.bytes(14112 - count + 4));
        other.dueRefused(statement, 4);
        other.dueInts("COMMIT;", 0);
        Desk.due("blocks", other.base.used(), (14112 - count + 4 + 223) / 224 + 1);
    }

    /** "ROOM: those of a TRANSACTION are 14112 at most": just so, and 4 too many; then a smaller one still has room. */
    private static void roomOfEach() {
        dueRoom("ADD 2 POINT(0 0);", 28);
        dueRoom("ADD 2 LINESTRING(0 0,1 1);", 36);
        dueRoom("ADD 2 POLYGON((0 0,9 0,9 9,0 0),(5 3,6 3,6 4,5 3));", 88);
        dueRoom("MOVE 1 1 1;", 16);
        dueRoom("FILL 20 100 LINES 0 0 5 5;", 32);
        Desk desk = two();
        desk.dueInts("ADD 7 POINT(7 7);BEGIN;", 0, 0);
        desk.sayLong(Desk.bytes(14104));
        desk.dueInts("MOVE 1 0 0;DROP 7;", 4, 0);
        desk.dueRefused("DROP 1;", 4);
        Desk.due("live", desk.base.live(), 1);
    }

    /** Each TRANSACTION has all of it anew: behind a COMMIT, an ABORT, a recover(), a FALL. */
    private static void roomIsOfOneTransaction() {
        String[] ends = {"COMMIT;", "ABORT;", "", "fall"};
        for (String end : ends) {
            Desk desk = two();
            desk.sayLong("BEGIN;" + Desk.bytes(14112));
            if (end.equals("fall")) {
                desk.base.crash(0, 1, 1);
                desk.say("COMMIT;");
                Desk.due("isDown", desk.base.isDown(), true);
            } else {
                desk.dueInts(end, end.isEmpty() ? new int[0] : new int[] {0});
            }
            if (end.isEmpty() || end.equals("fall")) {
                desk.base.recover();
            }
            desk.sayLong("SAVE;BEGIN;" + Desk.bytes(14096) + "MOVE 1 1 0;");
            desk.dueInts("MOVE 1 1 0;COMMIT;", 4, 0);
            Desk.due("used", desk.base.used(), 64);
        }
    }

    /** One by one there is ROOM for any: 15000 bytes of them are no harm. */
    private static void noRoomOutsideOfOne() {
        Desk desk = two();
        desk.sayLong("MOVE 1 1 0;".repeat(1000));
        Desk.due("x", desk.base.at(1, 0, 0), 1001);
        Desk.due("1000 of 2 blocks, and a save instead of each 33rd", desk.base.saves(), 1 + 30);
        Desk.due("used", desk.base.used(), 1000 % 33 * 2);
    }

    /** "BLOCKS of the LOG: one for each 224 BYTES, rounded up, and one more." */
    private static void blocksOfACommit() {
        int[] counts = {0, 8, 16, 216, 224, 228, 232, 440, 448, 452, 672, 676};
        int[] blocks = {1, 2, 2, 2, 2, 3, 3, 3, 3, 4, 4, 5};
        for (int i = 0; i < counts.length; i++) {
            Desk desk = two();
            desk.say("BEGIN;" + Desk.bytes(counts[i]) + "COMMIT;");
            Desk.due("blocks of " + counts[i] + " bytes", desk.base.used(), blocks[i]);
        }
        Desk desk = two();
        desk.dueInts("DROP 9;", 0);
        Desk.due("one by one", desk.base.used(), 2);
        desk.dueInts("ADD 2 LINESTRING(0 0" + ",1 1,0 0".repeat(12) + ");ADD 3 LINESTRING(0 0" + ",1 1,0 0".repeat(12) + ",1 1);", 0, 0);
        // 16 + 4 + 200 and 16 + 4 + 208 bytes
        Desk.due("220 and 228 bytes, one by one", desk.base.used(), 7);
    }

    /** Each number of blocks that a TRANSACTION may need: by just so many BYTES, and by 4 more. */
    private static void blocksOfGreatOnes() {
        for (int k = 4; k <= 63; k++) {
            Desk desk = two();
            desk.sayLong("BEGIN;" + Desk.bytes(224 * k) + "COMMIT;");
            Desk.due("blocks of " + 224 * k + " bytes", desk.base.used(), k + 1);
            Desk more = two();
            more.sayLong("BEGIN;" + Desk.bytes(224 * k - 220) + "COMMIT;");
            Desk.due("blocks of " + (224 * k - 220) + " bytes", more.base.used(), k + 1);
        }
    }

    private static void empties(Desk desk, int count) {
        desk.sayLong("BEGIN;COMMIT;".repeat(count));
    }

    /** "The LOG has room for 64 of them behind a SAVE": 62 and 2 are 64, 63 and 2 are too many, 64 and 1 too. */
    private static void logIsFullByOne() {
        Desk desk = two();
        empties(desk, 62);
        Desk.due("used", desk.base.used(), 62);
        desk.dueInts("MOVE 1 1 1;", 0);
        Desk.due("used", desk.base.used(), 64);
        Desk.due("saves", desk.base.saves(), 1);
        Desk other = two();
        empties(other, 63);
        Desk.due("used", other.base.used(), 63);
        other.dueInts("MOVE 1 1 1;", 0);
        Desk.due("used", other.base.used(), 0);
        Desk.due("saves", other.base.saves(), 2);
        Desk third = two();
        empties(third, 64);
        Desk.due("used", third.base.used(), 64);
        Desk.due("saves", third.base.saves(), 1);
        empties(third, 1);
        Desk.due("used", third.base.used(), 0);
        Desk.due("saves", third.base.saves(), 2);
        Desk first = new Desk();
        empties(first, 64);
        Desk.due("a new object has the same room", first.base.used(), 64);
        empties(first, 1);
        Desk.due("saves", first.base.saves(), 1);
    }

    /** One of 14112 bytes fits an empty LOG just so, and one with a block in it no more. */
    private static void logIsFullByATransaction() {
        for (int ahead = 0; ahead <= 1; ahead++) {
            Desk desk = two();
            empties(desk, ahead);
            desk.sayLong("BEGIN;" + Desk.bytes(14112) + "COMMIT;");
            Desk.due("used", desk.base.used(), ahead == 0 ? 64 : 0);
            Desk.due("saves", desk.base.saves(), ahead == 0 ? 1 : 2);
        }
        for (int ahead = 61; ahead <= 62; ahead++) {
            Desk desk = two();
            empties(desk, ahead);
            desk.sayLong("BEGIN;" + Desk.bytes(228) + "COMMIT;");
            Desk.due("used", desk.base.used(), ahead == 61 ? 64 : 0);
        }
    }

    /** "there is a SAVE instead, and no BLOCK is written: what is to be COMMITTED is so when the SAVE is done." */
    private static void saveInstead() {
        Desk desk = two();
        empties(desk, 64);
        desk.dueInts("BEGIN;MOVE 1 4 4;ADD 2 POINT(2 2);COMMIT;", 0, 0, 0, 0);
        Desk.due("used", desk.base.used(), 0);
        Desk.due("saves", desk.base.saves(), 2);
        Desk.due("it is committed", desk.base.recover(), 3);
        Desk.due("x", desk.base.at(1, 0, 0), 5);
        empties(desk, 64);
        desk.dueInts("DROP 2;", 0);
        Desk.due("used", desk.base.used(), 0);
        Desk.due("saves", desk.base.saves(), 3);
        Desk.due("it is committed", desk.base.recover(), 2);
    }

    /** "A SAVE, by whatever, makes the LOG empty": also of an empty one, and of a full one. */
    private static void saveEmptiesTheLog() {
        Desk desk = new Desk();
        desk.dueInts("SAVE;", 0);
        Desk.due("used", desk.base.used(), 0);
        empties(desk, 64);
        desk.dueInts("SAVE;", 0);
        Desk.due("used", desk.base.used(), 0);
        empties(desk, 64);
        Desk.due("all the room is there", desk.base.used(), 64);
        Desk.due("saves", desk.base.saves(), 2);
        empties(desk, 1);
        Desk.due("used", desk.base.used(), 0);
        empties(desk, 64);
        Desk.due("all the room is there", desk.base.used(), 64);
        Desk.due("saves", desk.base.saves(), 3);
    }

    /** "the n-th BLOCK that is written from then on": the first, the last, and one more. */
    private static void crashInTheNthBlock() {
        for (int n = 1; n <= 5; n++) {
            Desk desk = two();
            desk.dueInts("MOVE 9 1 1;", 0);
            desk.base.crash(0, n, 100);
            // 3 blocks, 1 block, 1 block
            String bytes = Desk.bytes(228);
            int done = desk.say("BEGIN;" + bytes + "COMMIT;BEGIN;COMMIT;BEGIN;COMMIT;PACK;");
            Desk.due("n " + n, done, bytes.split(";").length + new int[] {1, 1, 1, 3, 5}[n - 1]);
            Desk.due("isDown", desk.base.isDown(), true);
            desk.base.recover();
            Desk.due("used", desk.base.used(), new int[] {2, 2, 2, 5, 6}[n - 1]);
            Desk.due("id 8", desk.base.kindOf(8), n <= 3 ? -1 : 0);
        }
        Desk desk = two();
        desk.base.crash(0, 3, 0);
        Desk.due("one block too few", desk.say("MOVE 1 1 1;"), 1);
        Desk.due("isDown", desk.base.isDown(), false);
    }

    /** n may be great: it is counted over many COMMITS, over runs, and over SAVES. */
    private static void crashCountsOverCommits() {
        Desk desk = two();
        desk.base.crash(0, 1000, 5);
        desk.sayLong("BEGIN;COMMIT;".repeat(500));
        Desk.due("isDown", desk.base.isDown(), false);
        // Each 65th is a save instead: 500 commits wrote 493 blocks.
        Desk.due("saves", desk.base.saves(), 8);
        Desk.due("used", desk.base.used(), 493 - 7 * 64);
        Desk other = two();
        other.base.crash(0, 130, 5);
        other.sayLong("BEGIN;COMMIT;".repeat(131));
        Desk.due("129 blocks and two saves", other.base.isDown(), false);
        Desk.due("the 130th", other.say("BEGIN;COMMIT;"), 1);
        Desk.due("isDown", other.base.isDown(), true);
        other.base.recover();
        Desk.due("used", other.base.used(), 1);
    }

    /** A SAVE writes no BLOCK, neither by SAVE nor instead of BLOCKS. */
    private static void crashCountsNoSaves() {
        Desk desk = two();
        empties(desk, 64);
        desk.base.crash(0, 1, 0);
        desk.dueInts("SAVE;SAVE;", 0, 0);
        Desk.due("the next block", desk.say("MOVE 1 1 1;"), 0);
        desk.base.recover();
        empties(desk, 64);
        desk.base.crash(0, 1, 0);
        desk.dueInts("MOVE 1 1 1;", 0);
        Desk.due("isDown", desk.base.isDown(), false);
        Desk.due("the next block", desk.say("MOVE 1 1 1;"), 0);
        Desk.due("recover", desk.base.recover(), 2);
        Desk.due("x", desk.base.at(1, 0, 0), 2);
    }

    /** "crash(1, n, t): it fails in the next SAVE, at its n-th write, or at its last one, if it has fewer". */
    private static void crashInTheNextSave() {
        for (int n : new int[] {1, 2, 3, 10, 999, 1000}) {
            for (int t : new int[] {0, 1, 199, 200}) {
                Desk desk = two();
                desk.dueInts("MOVE 1 1 1;", 0);
                Desk.due("crash", desk.base.crash(1, n, t), true);
                Desk.due("blocks do not matter", desk.say("MOVE 1 1 1;BEGIN;MOVE 1 1 1;SAVE;COMMIT;SAVE;PACK;"), 5);
                desk.dueOut("ahead of the save", 0, 0, 0, 6, 0);
                Desk.due("isDown", desk.base.isDown(), true);
                Desk.due("saves", desk.base.saves(), 1);
                Desk.due("recover", desk.base.recover(), 2);
                Desk.due("all was committed", desk.base.at(1, 0, 0), 4);
                Desk.due("the log is as it was", desk.base.used(), 6);
                desk.dueInts("SAVE;", 0);
                Desk.due("saves", desk.base.saves(), 2);
                Desk.due("used", desk.base.used(), 0);
            }
        }
    }

    /** The next SAVE may be one that is done instead of BLOCKS; what it was to COMMIT is not COMMITTED. */
    private static void crashInASaveInstead() {
        Desk desk = two();
        empties(desk, 63);
        desk.base.crash(1, 1, 200);
        empties(desk, 1);
        Desk.due("used", desk.base.used(), 64);
        Desk.due("a commit", desk.say("BEGIN;MOVE 1 1 1;COMMIT;PACK;"), 2);
        Desk.due("isDown", desk.base.isDown(), true);
        Desk.due("recover", desk.base.recover(), 2);
        Desk.due("not committed", desk.base.at(1, 0, 0), 1);
        Desk.due("used", desk.base.used(), 64);
        Desk.due("saves", desk.base.saves(), 1);
        desk.base.crash(1, 1000, 0);
        Desk.due("one by one", desk.say("DROP 1;"), 0);
        Desk.due("recover", desk.base.recover(), 2);
        Desk.due("used", desk.base.used(), 64);
        desk.dueInts("DROP 1;", 0);
        Desk.due("used", desk.base.used(), 0);
        Desk.due("saves", desk.base.saves(), 2);
    }

    /** "The later crash() counts alone": of the same kind or the other; one that is refused counts not. */
    private static void laterCrashCountsAlone() {
        Desk desk = two();
        desk.base.crash(0, 1, 0);
        desk.base.crash(0, 5, 0);
        desk.dueInts("MOVE 1 1 1;MOVE 1 1 1;", 0, 0);
        Desk.due("the fifth", desk.say("MOVE 1 1 1;"), 0);
        desk.base.recover();
        desk.base.crash(0, 5, 0);
        desk.base.crash(0, 1, 0);
        Desk.due("the first", desk.say("MOVE 1 1 1;"), 0);
        desk.base.recover();
        desk.base.crash(0, 1, 0);
        desk.base.crash(1, 1, 0);
        desk.dueInts("MOVE 1 1 1;", 0);
        Desk.due("the save", desk.say("SAVE;"), 0);
        desk.base.recover();
        desk.base.crash(1, 1, 0);
        desk.base.crash(0, 1, 0);
        desk.dueInts("SAVE;", 0);
        Desk.due("the block", desk.say("MOVE 1 1 1;"), 0);
        desk.base.recover();
        // n is counted from the later one on
        desk.base.crash(0, 3, 0);
        desk.dueInts("MOVE 1 1 1;", 0);
        desk.base.crash(0, 3, 0);
        desk.dueInts("MOVE 1 1 1;", 0);
        Desk.due("the third", desk.say("MOVE 1 1 1;"), 0);
        desk.base.recover();
        desk.base.crash(0, 1, 0);
        int[][] bad = {{2, 1, 0}, {-1, 1, 0}, {0, 0, 0}, {0, 1001, 0}, {1, 1, -1}, {1, 1, 201}};
        for (int[] b : bad) {
            Desk.due("a refused one", desk.base.crash(b[0], b[1], b[2]), false);
        }
        Desk.due("the earlier one stands", desk.say("MOVE 1 1 1;"), 0);
    }

    /** "by its first t bytes only": however many, the BLOCK is not COMMITTED. */
    private static void crashOfAnyBytes() {
        for (int t = 0; t <= 200; t += 8) {
            for (int n = 1; n <= 3; n++) {
                Desk desk = two();
                desk.base.crash(0, n, t);
                desk.say("BEGIN;" + Desk.bytes(448) + "COMMIT;");
                Desk.due("isDown", desk.base.isDown(), true);
                Desk.due("recover", desk.base.recover(), 2);
                Desk.due("used", desk.base.used(), 0);
                desk.dueInts("MOVE 9 1 1;", 0);
                Desk.due("recover", desk.base.recover(), 2);
                Desk.due("what was written anew", desk.base.at(9, 0, 0), 10);
                Desk.due("what was written ahead is not there", desk.base.at(1, 0, 0), 1);
                Desk.due("used", desk.base.used(), 2);
            }
        }
    }

    /** "A FALL: run() ends there; the STATEMENT puts nothing out and is not counted .. the base is DOWN." */
    private static void fallEndsTheRun() {
        String[] falling = {"ADD 5 POINT(5 5);", "DROP 9;", "MOVE 9 1 1;", "FILL 20 5 LINES 0 0 5 5;", "BEGIN;COMMIT;"};
        for (String statement : falling) {
            Desk desk = two();
            desk.base.crash(0, 1, 3);
            int ahead = statement.startsWith("BEGIN") ? 3 : 2;
            Desk.due("run() of " + statement, desk.say("PACK;DROP 77;" + statement + "PACK;?"), ahead);
            Desk.due("outputs", desk.base.outputs(), ahead);
            Desk.due("out(1)", desk.base.out(1), 2);
            Desk.due("out behind", desk.base.out(ahead), 0);
            Desk.due("wrong() is not told", desk.base.wrong(), -1);
            Desk.due("isDown", desk.base.isDown(), true);
            Desk.due("the tape is empty", desk.base.end(40), 0);
            Desk.due("recover", desk.base.recover(), 2);
            Desk.due("run behind it", desk.base.run(), 0);
            Desk.due("outputs then", desk.base.outputs(), 0);
        }
        Desk wrong = two();
        wrong.base.crash(0, 1, 3);
        Desk.due("a wrong one ahead", wrong.say("PACK;?MOVE 1 1 1;"), 1);
        Desk.due("wrong", wrong.base.wrong(), 5);
        Desk.due("isDown", wrong.base.isDown(), false);
    }

    /** "what it was to COMMIT is not COMMITTED"; those ahead of it in the same run are. */
    private static void fallIsNotCommitted() {
        Desk desk = two();
        desk.base.crash(0, 4, 0);
        Desk.due("run", desk.say("ADD 5 POINT(5 5);ADD 6 POINT(6 6);ADD 7 POINT(7 7);"), 1);
        Desk.due("recover", desk.base.recover(), 3);
        Desk.due("the first", desk.base.kindOf(5), 0);
        Desk.due("the second", desk.base.kindOf(6), -1);
        desk.base.crash(0, 1, 0);
        desk.say("FILL 20 100 POINTS 0 0 5 5;");
        Desk.due("none of a FILL", desk.base.recover(), 3);
        desk.base.crash(0, 2, 0);
        desk.say("DROP 5;");
        Desk.due("a DROP", desk.base.recover(), 3);
        desk.base.crash(0, 2, 0);
        desk.say("MOVE 5 1 1;");
        desk.base.recover();
        Desk.due("a MOVE", desk.base.at(5, 0, 0), 5);
        desk.dueInts("ADD 6 POINT(6 6);DROP 5;", 0, 0);
    }

    /** "recover(): .. it may be done at any time": new, twice, in a TRANSACTION, behind a SAVE. */
    private static void recoverAtAnyTime() {
        Desk desk = new Desk();
        Desk.due("new", desk.base.recover(), 0);
        Desk.due("again", desk.base.recover(), 0);
        desk.dueInts("BEGIN;ADD 1 POINT(1 1);", 0, 0);
        Desk.due("in a transaction", desk.base.recover(), 0);
        Desk.due("none is open", desk.base.isOpen(), false);
        desk.dueInts("COMMIT;ADD 1 POINT(1 1);", 6, 0);
        Desk.due("one by one", desk.base.recover(), 1);
        desk.dueInts("SAVE;", 0);
        Desk.due("behind a save", desk.base.recover(), 1);
        desk.dueInts("BEGIN;DROP 1;COMMIT;", 0, 0, 0);
        Desk.due("behind a commit", desk.base.recover(), 0);
        desk.type("ADD 2 POINT(2 2);");
        desk.base.recover();
        Desk.due("the tape stays", desk.base.run(), 1);
        desk.base.recover();
        Desk.due("outputs stay", desk.base.outputs(), 1);
        desk.dueWrong("PACK;?", 1, 5);
        desk.base.recover();
        Desk.due("wrong stays", desk.base.wrong(), 5);
        Desk full = new Desk();
        full.dueInts("FILL 1 100 POINTS 0 0 5 5;FILL 101 100 POINTS 0 0 5 5;BEGIN;DROP 1;", 0, 0, 0, 0);
        Desk.due("200", full.base.recover(), 200);
    }

    /** "no crash() counts": neither kind. */
    private static void recoverForgetsCrashes() {
        Desk desk = two();
        desk.base.crash(0, 1, 0);
        desk.base.recover();
        desk.dueInts("MOVE 1 1 1;MOVE 1 1 1;", 0, 0);
        desk.base.crash(1, 1, 0);
        desk.base.recover();
        desk.dueInts("SAVE;SAVE;", 0, 0);
        desk.base.crash(0, 1, 0);
        desk.say("MOVE 1 1 1;");
        Desk.due("crash while it is down", desk.base.crash(0, 1, 0), false);
        Desk.due("crash while it is down", desk.base.crash(1, 1, 0), false);
        desk.base.recover();
        desk.dueInts("MOVE 1 1 1;SAVE;MOVE 1 1 1;", 0, 0, 0);
    }

    /** "BLOCKS that were COMMITTED stay in the LOG; others leave its room as it was." */
    private static void blocksStayOrLeave() {
        Desk desk = two();
        empties(desk, 60);
        desk.base.recover();
        Desk.due("they stay", desk.base.used(), 60);
        for (int n = 1; n <= 2; n++) {
            desk.base.crash(0, n, 50);
            desk.say("MOVE 1 1 1;");
            desk.base.recover();
            Desk.due("others leave", desk.base.used(), 60);
        }
        desk.dueInts("MOVE 1 1 1;MOVE 1 1 1;", 0, 0);
        Desk.due("the room is all there", desk.base.used(), 64);
        Desk.due("saves", desk.base.saves(), 1);
        desk.base.recover();
        Desk.due("they stay", desk.base.used(), 64);
        desk.dueInts("MOVE 1 1 1;", 0);
        Desk.due("and count", desk.base.saves(), 2);
    }

    /** "While it is DOWN, run() answers -1 and does nothing (the TAPE stays)." */
    private static void whileItIsDown() {
        Desk desk = two();
        desk.base.crash(0, 1, 0);
        Desk.due("the fall", desk.say("PACK;NEAR 1 1 1;MOVE 1 1 1;PACK;"), 2);
        Desk.due("feed", desk.type("ADD 5 POINT(5 5);?"), 18);
        for (int i = 0; i < 3; i++) {
            Desk.due("run", desk.base.run(), -1);
            Desk.due("outputs stay", desk.base.outputs(), 4);
            Desk.due("out stays", desk.base.out(3), 1);
            Desk.due("wrong stays", desk.base.wrong(), -1);
            Desk.due("the tape stays", desk.base.end(40), 18);
        }
        Desk.due("saves", desk.base.saves(), 1);
        Desk.due("flaws", desk.base.flaws(), 0);
        Desk.due("recover", desk.base.recover(), 2);
        Desk.due("run then", desk.base.run(), 1);
        Desk.due("wrong then", desk.base.wrong(), 17);
        Desk.due("live", desk.base.live(), 3);
        Desk.due("run of the empty tape", desk.base.run(), 0);
    }

    /** Falls again and again, in every write of a run of statements: what is there is always what was committed. */
    private static void manyFalls() {
        Desk desk = two();
        int x = 1;
        for (int n = 1; n <= 40; n++) {
            desk.base.crash(n % 5 == 0 ? 1 : 0, n % 7 + 1, n * 5);
            int done = desk.say("MOVE 1 1 0;MOVE 1 1 0;BEGIN;MOVE 1 1 0;COMMIT;SAVE;");
            Desk.due("isDown", desk.base.isDown(), done < 6);
            x += done < 2 ? done : done < 5 ? 2 : 3;
            Desk.due("recover", desk.base.recover(), 2);
            Desk.due("x", desk.base.at(1, 0, 0), x);
            Desk.due("flaws", desk.base.flaws(), 0);
        }
    }
}
