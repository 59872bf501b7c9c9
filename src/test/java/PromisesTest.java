/** Each promise of the document: ordinary calls, the edges that it names, and wrong arguments. */
public final class PromisesTest {
    private static final String SQUARE = "POLYGON((0 0,10 0,10 10,0 10,0 0))";
    private static final String HOLED = "POLYGON((0 0,10 0,10 10,0 10,0 0),(4 4,6 4,6 6,4 6,4 4))";
    private static final int GREATEST = 1073741823;

    public static void main(String[] args) {
        newObject();
        feed();
        end();
        run();
        StatementsDue.all();
        wrong();
        outputs();
        out();
        crash();
        crashInSave();
        recover();
        isDown();
        isOpen();
        live();
        idAt();
        kindOf();
        places();
        rings();
        at();
        relate();
        nearer();
        used();
        saves();
        flaws();
        Desk.finish();
    }

    /** Promise 1. */
    private static void newObject() {
        LandBase base = new LandBase();
        Desk.due("BAD", LandBase.BAD, -1);
        Desk.due("live", base.live(), 0);
        Desk.due("isDown", base.isDown(), false);
        Desk.due("isOpen", base.isOpen(), false);
        Desk.due("outputs", base.outputs(), 0);
        Desk.due("wrong", base.wrong(), -1);
        Desk.due("used", base.used(), 0);
        Desk.due("saves", base.saves(), 0);
        Desk.due("flaws", base.flaws(), 0);
        Desk.due("idAt", base.idAt(0), -1);
        Desk.due("out", base.out(0), 0);
        Desk.due("run", base.run(), 0);
        Desk.due("recover", base.recover(), 0);
        Desk.due("end of nothing", base.end(40), 0);
        Desk desk = new Desk();
        new Desk().say("ADD 1 POINT(1 1);");
        Desk.due("bases share nothing", desk.base.live(), 0);
    }

    /** Promise 2. */
    private static void feed() {
        LandBase base = new LandBase();
        // "ADD 7 LINESTRING(-1 -2,3 4);" with blanks behind it
        Desk.due("feed", base.feed(0x4144442037204c49L, 0x4e45535452494e47L, 0x282d31202d322c33L, 0x2034293b20202020L, 0x2020202020202020L), 40);
        Desk.due("run", base.run(), 1);
        Desk.due("at", base.at(7, 0, 0), -1);
        Desk.due("at", base.at(7, 0, 1), -2);
        Desk.due("at", base.at(7, 1, 1), 4);
        for (int i = 1; i <= 100; i++) {
            Desk.due("feed " + i, base.feed(0x2020202020202020L, 0x2020202020202020L, 0x2020202020202020L, 0x2020202020202020L, 0x2020202020202020L), 40 * i);
        }
        Desk.due("feed above 4000", base.feed(0, 0, 0, 0, 0), -1);
        Desk.due("nothing came", base.end(40), 4000);
        Desk.due("end(39)", base.end(39), 3999);
        Desk.due("feed at 3999", base.feed(0, 0, 0, 0, 0), -1);
        Desk.due("end(1)", base.end(1), 3960);
        Desk.due("feed at 3960", base.feed(0x5041434b3b202020L, -1, -1, -1, -1), 4000);
        Desk.due("end(5)", base.end(5), 3965);
        Desk.due("run of a long tape", base.run(), 1);
        Desk.due("wrong", base.wrong(), -1);
        // bytes above 127 are no tokens
        base.feed(-1, -1, -1, -1, -1);
        Desk.due("run", base.run(), 0);
        Desk.due("wrong", base.wrong(), 0);
        dueFeedWhileDown();
    }

    private static void dueFeedWhileDown() {
        Desk desk = new Desk();
        desk.base.crash(1, 1, 0);
        desk.say("SAVE;");
        Desk.due("feed while down", desk.type("PACK;"), 5);
        Desk.due("run while down", desk.base.run(), -1);
        Desk.due("the tape stays", desk.base.end(40), 5);
        desk.base.recover();
        Desk.due("run then", desk.base.run(), 1);
    }

    /** Promise 3. */
    private static void end() {
        LandBase base = new LandBase();
        Desk.due("end(39) of nothing", base.end(39), -1);
        Desk.due("end(40) of nothing", base.end(40), 0);
        base.feed(0x504143Bb50414343L, 0, 0, 0, 0);
        Desk.due("end(-1)", base.end(-1), -1);
        Desk.due("end(41)", base.end(41), -1);
        Desk.due("end(min)", base.end(Integer.MIN_VALUE), -1);
        Desk.due("end(max)", base.end(Integer.MAX_VALUE), -1);
        Desk.due("end(40)", base.end(40), 40);
        Desk.due("end(10)", base.end(10), 10);
        Desk.due("end(29): 11 would go", base.end(29), -1);
        Desk.due("end(30): 10 go", base.end(30), 0);
        base.feed(0, 0, 0, 0, 0);
        Desk.due("end(0)", base.end(0), 0);
        base.feed(0x5041434b3b504143L, 0x4b3b000000000000L, 0, 0, 0);
        Desk.due("end(10)", base.end(10), 10);
        Desk.due("run", base.run(), 2);
        Desk.due("wrong", base.wrong(), -1);
    }

    /** Promise 4; what each statement does, and why it is refused, stands in StatementsDue. */
    private static void run() {
        Desk desk = new Desk();
        Desk.due("run of nothing", desk.base.run(), 0);
        Desk.due("run", desk.say("ADD 1 POINT(3 4);DROP 1;DROP 1;"), 3);
        desk.dueOut("done and refused", 0, 0, 2);
        Desk.due("the tape is empty then", desk.base.end(40), 0);
        Desk.due("run", desk.say("ADD 1 POINT(3 4);DROP 1"), 1);
        Desk.due("the tape is empty then", desk.base.end(40), 0);
    }

    /** Promise 5. */
    private static void wrong() {
        Desk desk = new Desk();
        desk.dueWrong("", 0, -1);
        desk.dueWrong(" \n ", 0, -1);
        desk.dueWrong("PACK", 0, 4);
        desk.dueWrong("PACK;\n PAC;", 1, 7);
        desk.dueWrong("PACK;PACKS;", 1, 5);
        desk.dueWrong("PACK PACK;", 0, 5);
        desk.dueWrong("PACKZ;", 0, 0);
        desk.dueWrong("PACKA;", 0, 0);
        desk.dueWrong("PACK[;", 0, 4);
        desk.dueWrong("PACK@;", 0, 4);
        desk.dueWrong("DROP 1/;", 0, 6);
        desk.dueWrong("DROP 1:;", 0, 6);
        desk.dueWrong(";", 0, 0);
        desk.dueWrong("pack;", 0, 0);
        desk.dueWrong("\tPACK;", 0, 0);
        desk.dueWrong("PACK\r;", 0, 4);
        desk.dueWrong("DROP;", 0, 4);
        desk.dueWrong("DROP -;", 0, 5);
        desk.dueWrong("DROP - 1;", 0, 5);
        desk.dueWrong("DROP --1;", 0, 5);
        desk.dueWrong("DROP 1 2;", 0, 7);
        desk.dueWrong("DROP 1.5;", 0, 6);
        desk.dueWrong("DROP +1;", 0, 5);
        desk.dueWrong("DROP 1073741824;", 0, 5);
        desk.dueWrong("DROP -1073741824;", 0, 5);
        desk.dueWrong("DROP 00000000001;", 0, 5);
        desk.dueWrong("DROP 99999999999999999999;", 0, 5);
        desk.dueWrong("DROP 1073741823;DROP -1073741823;DROP 0000000001;DROP-0;", 4, -1);
        desk.dueOut("the greatest numbers", 2, 2, 2, 2);
        desk.dueWrong("ADD1POINT(3-4);", 1, -1);
        Desk.due("3-4 is two numbers", desk.base.at(1, 0, 1), -4);
        desk.dueWrong("ADD 2 POINT 1 2);", 0, 12);
        desk.dueWrong("ADD 2 POINT();", 0, 12);
        desk.dueWrong("ADD 2 POINT(1);", 0, 13);
        desk.dueWrong("ADD 2 POINT(1,2);", 0, 13);
        desk.dueWrong("ADD 2 POINT(1 2,3 4);", 0, 15);
        desk.dueWrong("ADD 2 LINESTRING(1 2,);", 0, 21);
        desk.dueWrong("ADD 2 LINESTRING((1 2));", 0, 17);
        desk.dueWrong("ADD 2 POLYGON(0 0,1 0,1 1,0 0);", 0, 14);
        desk.dueWrong("ADD 2 POLYGON((0 0,1 0,1 1,0 0),);", 0, 32);
        desk.dueWrong("ADD 2 POLYGON((0 0,1 0,1 1,0 0);", 0, 31);
        desk.dueWrong("ADD 2 POLYGON();", 0, 14);
        desk.dueWrong("ADD 2 POLYGON;", 0, 13);
        desk.dueWrong("ADD 2 LINESTRING;", 0, 16);
        desk.dueWrong("ADD 2 POINT;", 0, 11);
        desk.dueWrong("FIND TOUCHES POLYGON(;", 0, 21);
        desk.dueWrong("ADD 2 CIRCLE(1 2);", 0, 6);
        desk.dueWrong("ADD 2 POINTS(1 2);", 0, 6);
        desk.dueWrong("ADD 2;", 0, 5);
        desk.dueWrong("ADD 2 POINT(1 2)", 0, 16);
        desk.dueWrong("ADD 2 POINT(1 2) \n", 0, 18);
        desk.dueWrong("FILL 1 1 POINT 0 0 1 1;", 0, 9);
        desk.dueWrong("FILL 1 1 POINTS 0 0 1;", 0, 21);
        desk.dueWrong("FIND NEAR POINT(1 2);", 0, 5);
        desk.dueWrong("FIND POINT(1 2);", 0, 5);
        desk.dueWrong("JOIN WITHIN 1 2 3;", 0, 17);
        desk.dueWrong("WINDOW 1 2 3;", 0, 12);
        desk.dueWrong("NEAR 1 2;", 0, 8);
        desk.dueWrong("MOVE 1 2;", 0, 8);
        Desk.due("nothing was added", desk.base.live(), 1);
        desk.dueWrong("DROP 1;DROP 9;?PACK;", 2, 14);
        Desk.due("those ahead are done", desk.base.live(), 0);
        wrongWhereManyPlaces(desk);
        wrongAheadOfCutBytes();
    }

    /** What end() took away, or an earlier tape had there, is not looked at. */
    private static void wrongAheadOfCutBytes() {
        String[] texts = {"PACK;DROP 111111111111111111111111111111", "PACK;PACK                               ",
            "PACK;PACKPACKPACKPACKPACKPACKPACKPACKPAC", "PACK;PACK;PACK;PACK;PACK;PACK;PACK;PACK;"};
        int[] cuts = {12, 9, 9, 9};
        for (int i = 0; i < texts.length; i++) {
            Desk desk = new Desk();
            desk.type(texts[i]);
            desk.base.end(cuts[i]);
            Desk.due("run of the first " + cuts[i] + " of " + texts[i], desk.base.run(), 1);
            Desk.due("wrong of the first " + cuts[i] + " of " + texts[i], desk.base.wrong(), cuts[i]);
        }
        Desk desk = new Desk();
        desk.type("ADD 1 POINT(1 1);ADD 2 POINT(1 1);ADD 3 ");
        desk.base.end(17);
        Desk.due("run", desk.base.run(), 1);
        Desk.due("wrong", desk.base.wrong(), -1);
        Desk.due("live", desk.base.live(), 1);
    }

    private static void wrongWhereManyPlaces(Desk desk) {
        StringBuilder text = new StringBuilder("ADD 3 LINESTRING(0 0");
        for (int i = 1; i < 300; i++) {
            text.append(",").append(i).append(" 0");
        }
        desk.dueWrong(text + ");", 1, -1);
        desk.dueOut("300 places", 4);
        desk.dueWrong(text + ",);", 0, text.length() + 1);
        desk.say("PACK;");
        desk.type("PACK;?");
        desk.base.crash(1, 1, 1);
        desk.say("SAVE;");
        Desk.due("wrong ahead of the SAVE", desk.base.wrong(), 5);
        desk.dueWrong("SAVE;?", 0, -1);
        Desk.due("a run that is BAD", desk.say("?"), -1);
        Desk.due("wrong of the run that fell", desk.base.wrong(), -1);
    }

    /** Promise 6. */
    private static void outputs() {
        Desk desk = new Desk();
        desk.say("PACK;PACK;DROP 1;");
        Desk.due("outputs", desk.base.outputs(), 3);
        desk.say("FILL 1 10 POINTS 0 0 5 1;WINDOW 0 0 9 9;");
        Desk.due("outputs", desk.base.outputs(), 13);
        desk.base.run();
        Desk.due("outputs of an empty run", desk.base.outputs(), 0);
        desk.say("PACK;?");
        Desk.due("outputs of a wrong one", desk.base.outputs(), 1);
        desk.base.crash(1, 1, 0);
        desk.say("PACK;PACK;SAVE;PACK;");
        Desk.due("outputs of one that fell", desk.base.outputs(), 2);
        desk.base.run();
        Desk.due("a run that is BAD leaves them", desk.base.outputs(), 2);
    }

    /** Promise 7. */
    private static void out() {
        Desk desk = new Desk();
        desk.say("ADD 17 POINT(0 0);ADD 0 POINT(1 1);NEAR 1 0 0;");
        Desk.due("out(0)", desk.base.out(0), 0);
        Desk.due("out(1)", desk.base.out(1), 5);
        Desk.due("out(4)", desk.base.out(4), 17);
        Desk.due("out(5)", desk.base.out(5), 0);
        Desk.due("out(-1)", desk.base.out(-1), 0);
        Desk.due("out(min)", desk.base.out(Integer.MIN_VALUE), 0);
        Desk.due("out(max)", desk.base.out(Integer.MAX_VALUE), 0);
        desk.say("PACK;");
        Desk.due("nothing stays of the run ahead", desk.base.out(1), 0);
    }

    /** Promise 8: failing in a block of the log. */
    private static void crash() {
        Desk desk = new Desk();
        LandBase base = desk.base;
        int[][] bad = {{-1, 1, 0}, {2, 1, 0}, {0, 0, 0}, {0, 1001, 0}, {0, 1, -1}, {0, 1, 201}, {1, -5, 3},
            {Integer.MIN_VALUE, 1, 1}, {0, Integer.MAX_VALUE, 1}, {1, 1, Integer.MIN_VALUE}};
        for (int[] b : bad) {
            Desk.due("crash " + b[0] + " " + b[1] + " " + b[2], base.crash(b[0], b[1], b[2]), false);
        }
        desk.dueInts("ADD 1 POINT(1 1);SAVE;", 0, 0);
        Desk.due("crash", base.crash(0, 1, 0), true);
        Desk.due("a bad one does not count", base.crash(0, 1001, 0), false);
        Desk.due("run", desk.say("PACK;ADD 2 POINT(1 1);ADD 3 POINT(1 1);"), 1);
        desk.dueOut("the first block", 0);
        Desk.due("isDown", base.isDown(), true);
        Desk.due("crash while down", base.crash(0, 1, 0), false);
        Desk.due("recover", base.recover(), 1);
        Desk.due("crash", base.crash(0, 1000, 200), true);
        Desk.due("the later one counts alone", base.crash(0, 4, 200), true);
        Desk.due("run", desk.say("ADD 2 POINT(1 1);ADD 3 POINT(1 1);"), 1);
        Desk.due("recover", base.recover(), 2);
        Desk.due("no crash counts then", desk.say("ADD 3 POINT(1 1);ADD 4 POINT(1 1);"), 2);
        base.crash(0, 3, 77);
        Desk.due("2 blocks each", desk.say("DROP 4;DROP 3;"), 1);
        Desk.due("recover", base.recover(), 3);
        for (int n = 1; n <= 4; n++) {
            // 228 bytes: two blocks and one more
            base.crash(0, n, 5);
            String lines = "ADD 8 LINESTRING(0 0,1 1,2 2,3 3,4 4,5 5);ADD 9 LINESTRING(0 0,1 1,2 2,3 3,4 4,5 5,6 6);"
                + "ADD 10 LINESTRING(0 0,1 1,2 2,3 3,4 4,5 5,6 6,7 7);";
            int done = desk.say("BEGIN;" + lines + "COMMIT;");
            Desk.due("block " + n + " of three", done, n <= 3 ? 4 : 5);
            Desk.due("recover", base.recover(), n <= 3 ? 3 : 6);
        }
        Desk.due("used", base.used(), 11);
    }

    private static void crashInSave() {
        Desk desk = new Desk();
        LandBase base = desk.base;
        desk.dueInts("ADD 1 POINT(1 1);", 0);
        base.crash(1, 1000, 200);
        Desk.due("blocks are written", desk.say("ADD 2 POINT(1 1);BEGIN;SAVE;COMMIT;SAVE;PACK;"), 4);
        desk.dueOut("up to the SAVE", 0, 0, 6, 0);
        Desk.due("saves", base.saves(), 0);
        Desk.due("recover", base.recover(), 2);
        Desk.due("used", base.used(), 5);
        base.crash(0, 1, 1);
        desk.dueInts("SAVE;", 0);
        Desk.due("a SAVE writes no block", desk.say("DROP 1;"), 0);
        Desk.due("recover", base.recover(), 2);
        base.crash(0, 1, 1);
        base.crash(1, 3, 1);
        desk.dueInts("DROP 1;", 0);
        fillLog(desk, 64);
        Desk.due("the log is full", base.used(), 64);
        Desk.due("a SAVE instead falls", desk.say("DROP 2;"), 0);
        Desk.due("recover", base.recover(), 1);
        Desk.due("used stays", base.used(), 64);
        base.crash(0, 1, 1);
        desk.dueInts("DROP 2;", 0);
        Desk.due("no block was written", base.used(), 0);
        Desk.due("saves", base.saves(), 2);
        Desk.due("the crash still counts", desk.say("ADD 2 POINT(1 1);"), 0);
        Desk.due("recover", base.recover(), 0);
    }

    /** Empty transactions write one block each. */
    private static void fillLog(Desk desk, int blocks) {
        int more = blocks - desk.base.used();
        for (int i = 0; i < more; i++) {
            desk.say("BEGIN;COMMIT;");
        }
    }

    /** Promise 9. */
    private static void recover() {
        Desk desk = new Desk();
        LandBase base = desk.base;
        desk.say("FILL 1 5 SQUARES 0 0 100 7;BEGIN;DROP 1;MOVE 2 1 1;ADD 9 POINT(0 0);FILL 20 7 LINES 0 0 9 9;");
        Desk.due("live", base.live(), 12);
        int x = base.at(2, 0, 0);
        Desk.due("recover in a transaction", base.recover(), 5);
        Desk.due("isOpen", base.isOpen(), false);
        Desk.due("kindOf(1)", base.kindOf(1), 2);
        Desk.due("kindOf(9)", base.kindOf(9), -1);
        Desk.due("at(2) is back", base.at(2, 0, 0), x - 1);
        Desk.due("recover again", base.recover(), 5);
        base.crash(0, 1, 3);
        base.recover();
        Desk.due("no crash counts", desk.say("DROP 1;"), 1);
        base.crash(0, 2, 3);
        Desk.due("a fall", desk.say("MOVE 2 5 5;"), 0);
        Desk.due("recover", base.recover(), 4);
        Desk.due("the move is out", base.at(2, 0, 0), x - 1);
        desk.type("DROP 2;");
        base.recover();
        Desk.due("the tape stays", base.run(), 1);
        Desk.due("recover", base.recover(), 3);
    }

    /** Promise 10. */
    private static void isDown() {
        Desk desk = new Desk();
        desk.base.crash(0, 1, 0);
        Desk.due("a crash to come", desk.base.isDown(), false);
        desk.say("FILL 1 3 POINTS 0 0 9 9;");
        Desk.due("isDown", desk.base.isDown(), true);
        Desk.due("run", desk.say("PACK;"), -1);
        Desk.due("isDown", desk.base.isDown(), true);
        desk.base.recover();
        Desk.due("isDown", desk.base.isDown(), false);
        Desk.due("run", desk.base.run(), 1);
    }

    /** Promise 11. */
    private static void isOpen() {
        Desk desk = new Desk();
        desk.dueInts("BEGIN;BEGIN;", 0, 6);
        Desk.due("isOpen", desk.base.isOpen(), true);
        desk.dueInts("PACK;", 0);
        Desk.due("it stays open", desk.base.isOpen(), true);
        desk.dueInts("ABORT;ABORT;COMMIT;", 0, 6, 6);
        Desk.due("isOpen", desk.base.isOpen(), false);
        desk.dueInts("BEGIN;COMMIT;COMMIT;", 0, 0, 6);
        Desk.due("isOpen", desk.base.isOpen(), false);
        desk.base.crash(0, 1, 0);
        desk.say("BEGIN;");
        Desk.due("isOpen", desk.base.isOpen(), true);
        desk.say("COMMIT;");
        Desk.due("isOpen while down", desk.base.isOpen(), false);
        desk.base.recover();
        Desk.due("isOpen", desk.base.isOpen(), false);
        desk.say("BEGIN;");
        desk.base.recover();
        Desk.due("isOpen behind recover", desk.base.isOpen(), false);
    }

    private static Desk downDesk() {
        Desk desk = new Desk();
        desk.say("ADD 1 POINT(5 5);ADD 2 " + HOLED + ";");
        desk.base.crash(1, 1, 0);
        desk.say("SAVE;");
        return desk;
    }

    /** Promise 12. */
    private static void live() {
        Desk desk = new Desk();
        desk.say("FILL 1 100 POINTS 0 0 100 1;FILL 101 100 POINTS 0 0 100 1;ADD 300 POINT(0 0);");
        Desk.due("live", desk.base.live(), 200);
        desk.say("DROP 50;ADD 300 POINT(0 0);");
        desk.dueOut("room for one", 0, 0);
        Desk.due("live", desk.base.live(), 200);
        desk.say("BEGIN;DROP 51;");
        Desk.due("live in a transaction", desk.base.live(), 199);
        desk.say("ABORT;");
        Desk.due("live", desk.base.live(), 200);
        LandBase down = downDesk().base;
        Desk.due("live while down", down.live(), -1);
        Desk.due("idAt while down", down.idAt(0), -1);
        Desk.due("kindOf while down", down.kindOf(1), -1);
        Desk.due("places while down", down.places(1), -1);
        Desk.due("rings while down", down.rings(1), -1);
        Desk.due("relate while down", down.relate(0, 1, 2), -1);
        Desk.due("used while down", down.used(), -1);
    }

    /** Promise 13. */
    private static void idAt() {
        Desk desk = new Desk();
        desk.say("ADD 9999 POINT(0 0);ADD 1 POINT(0 0);ADD 70 POINT(0 0);ADD 8 POINT(0 0);DROP 70;ADD 5 POINT(1 1);");
        int[] want = {-1, 1, 5, 8, 9999, -1};
        for (int i = -1; i <= 4; i++) {
            Desk.due("idAt " + i, desk.base.idAt(i), want[i + 1]);
        }
        Desk.due("idAt min", desk.base.idAt(Integer.MIN_VALUE), -1);
        Desk.due("idAt max", desk.base.idAt(Integer.MAX_VALUE), -1);
        Desk.due("idAt(199)", desk.base.idAt(199), -1);
        Desk.due("idAt(200)", desk.base.idAt(200), -1);
    }

    private static Desk threeKinds() {
        Desk desk = new Desk();
        desk.dueInts("ADD 1 POINT(5 -6);ADD 2 LINESTRING(1 2,3 4,1 2);ADD 3 " + HOLED + ";", 0, 0, 0);
        return desk;
    }

    /** Promise 14. */
    private static void kindOf() {
        LandBase base = threeKinds().base;
        int[] want = {-1, 0, 1, 2, -1};
        for (int id = 0; id <= 4; id++) {
            Desk.due("kindOf " + id, base.kindOf(id), want[id]);
        }
        Desk.due("kindOf min", base.kindOf(Integer.MIN_VALUE), -1);
        Desk.due("kindOf max", base.kindOf(Integer.MAX_VALUE), -1);
    }

    /** Promise 15. */
    private static void places() {
        LandBase base = threeKinds().base;
        int[] want = {-1, 1, 3, 10, -1};
        for (int id = 0; id <= 4; id++) {
            Desk.due("places " + id, base.places(id), want[id]);
        }
        Desk.due("places min", base.places(Integer.MIN_VALUE), -1);
    }

    /** Promise 16. */
    private static void rings() {
        LandBase base = threeKinds().base;
        int[] want = {-1, 1, 1, 2, -1};
        for (int id = 0; id <= 4; id++) {
            Desk.due("rings " + id, base.rings(id), want[id]);
        }
        Desk.due("rings max", base.rings(Integer.MAX_VALUE), -1);
    }

    /** Promise 17. */
    private static void at() {
        LandBase base = threeKinds().base;
        Desk.due("at", base.at(1, 0, 0), 5);
        Desk.due("at", base.at(1, 0, 1), -6);
        Desk.due("at", base.at(2, 1, 1), 4);
        Desk.due("at", base.at(3, 2, 0), 10);
        Desk.due("at of the hole", base.at(3, 6, 0), 6);
        Desk.due("at of the hole", base.at(3, 9, 1), 4);
        Desk.due("part 2", base.at(1, 0, 2), 0);
        Desk.due("part -1", base.at(1, 0, -1), 0);
        Desk.due("place 1", base.at(1, 1, 0), 0);
        Desk.due("place 10", base.at(3, 10, 0), 0);
        Desk.due("place 40", base.at(3, 40, 0), 0);
        Desk.due("place -1", base.at(3, -1, 0), 0);
        Desk.due("place min", base.at(3, Integer.MIN_VALUE, 0), 0);
        Desk.due("id 4", base.at(4, 0, 0), 0);
        Desk.due("while down", downDesk().base.at(1, 0, 0), 0);
    }

    /** Promise 18; GeometryTest and HolesTest compare many more. */
    private static void relate() {
        Desk desk = threeKinds();
        LandBase base = desk.base;
        desk.say("ADD 4 POINT(5 5);ADD 5 LINESTRING(4 5,5 5);ADD 6 POLYGON((4 4,6 4,6 6,4 6,4 4));ADD 7 LINESTRING(0 0,20 0);ADD 8 " + SQUARE + ";");
        Desk.due("a hole's filling touches", base.relate(2, 6, 3), 1);
        Desk.due("a hole's filling is not within", base.relate(3, 6, 3), 0);
        Desk.due("a point in the hole", base.relate(1, 4, 3), 1);
        Desk.due("a line in the hole that ends on it", base.relate(2, 5, 3), 1);
        Desk.due("a line's end", base.relate(2, 4, 5), 1);
        Desk.due("a line's end is not within", base.relate(3, 4, 5), 0);
        Desk.due("along the shell and on", base.relate(2, 7, 3), 1);
        Desk.due("within", base.relate(3, 3, 8), 1);
        Desk.due("contains", base.relate(4, 8, 3), 1);
        Desk.due("not within", base.relate(3, 8, 3), 0);
        for (int id = 1; id <= 8; id++) {
            Desk.due("itself", base.relate(0, id, id), 1);
            Desk.due("itself", base.relate(1, id, id), 0);
            Desk.due("itself", base.relate(2, id, id), 0);
            Desk.due("itself", base.relate(3, id, id), 1);
            Desk.due("itself", base.relate(4, id, id), 1);
        }
        Desk.due("rel -1", base.relate(-1, 1, 2), -1);
        Desk.due("rel 5", base.relate(5, 1, 2), -1);
        Desk.due("rel min", base.relate(Integer.MIN_VALUE, 1, 2), -1);
        Desk.due("not live", base.relate(0, 9, 1), -1);
        Desk.due("not live", base.relate(0, 1, 9), -1);
        Desk.due("not live", base.relate(5, 0, 0), -1);
    }

    /** Promise 19. */
    private static void nearer() {
        Desk desk = new Desk();
        LandBase base = desk.base;
        desk.say("ADD 1 POINT(3 4);ADD 2 LINESTRING(-7 1,7 1);ADD 3 " + HOLED + ";ADD 4 POINT(-1073741823 -1073741823);"
            + "ADD 5 POINT(1073741823 1073741823);ADD 6 LINESTRING(1073741822 1073741823,1073741823 1073741822);ADD 7 POINT(5 0);");
        Desk.due("nearer", base.nearer(1, 2, 0, 0), 1);
        Desk.due("nearer", base.nearer(2, 1, 0, 0), -1);
        Desk.due("alike", base.nearer(1, 7, 0, 0), 0);
        Desk.due("the same", base.nearer(1, 1, 9, 9), 0);
        Desk.due("in the hole", base.nearer(3, 7, 5, 5), -1);
        Desk.due("in the polygon it is 0", base.nearer(3, 7, 5, 0), 0);
        Desk.due("the greatest", base.nearer(4, 5, 0, 0), 0);
        Desk.due("the greatest", base.nearer(4, 5, 0, 1), 1);
        Desk.due("half a unit's root", base.nearer(5, 6, GREATEST, GREATEST), -1);
        Desk.due("half a unit's root", base.nearer(5, 6, -GREATEST, -GREATEST), 1);
        Desk.due("half a unit's root", base.nearer(6, 4, GREATEST, GREATEST), -1);
        Desk.due("x beyond", base.nearer(1, 2, GREATEST + 1, 0), -2);
        Desk.due("x beyond", base.nearer(1, 2, -GREATEST - 1, 0), -2);
        Desk.due("y beyond", base.nearer(1, 2, 0, Integer.MIN_VALUE), -2);
        Desk.due("y beyond", base.nearer(1, 2, 0, Integer.MAX_VALUE), -2);
        Desk.due("not live", base.nearer(1, 8, 0, 0), -2);
        Desk.due("not live", base.nearer(0, 1, 0, 0), -2);
        Desk.due("while down", downDesk().base.nearer(1, 1, 0, 0), -2);
    }

    /** Promise 20. */
    private static void used() {
        Desk desk = new Desk();
        LandBase base = desk.base;
        desk.say("ADD 1 POINT(1 1);");
        Desk.due("one by one", base.used(), 2);
        desk.say("MOVE 1 1 1;DROP 1;DROP 1;FIND WITHIN POINT(0 0);PACK;");
        Desk.due("refused ones and questions write nothing", base.used(), 6);
        desk.say("BEGIN;FILL 1 100 POINTS 0 0 9 9;");
        Desk.due("not ahead of the COMMIT", base.used(), 6);
        desk.say("COMMIT;");
        Desk.due("32 bytes", base.used(), 8);
        desk.say("BEGIN;COMMIT;");
        Desk.due("an empty one", base.used(), 9);
        desk.say("BEGIN;DROP 1;ABORT;");
        Desk.due("an aborted one", base.used(), 9);
        desk.say("BEGIN;DROP 1;MOVE 2 1 1;COMMIT;SAVE;");
        Desk.due("behind a SAVE", base.used(), 0);
        StringBuilder moves = new StringBuilder("BEGIN;");
        for (int i = 0; i < 14; i++) {
            moves.append("MOVE 2 1 1;");
        }
        desk.say(moves + "COMMIT;");
        Desk.due("224 bytes", base.used(), 2);
        desk.say(moves + "DROP 3;COMMIT;");
        Desk.due("232 bytes", base.used(), 5);
        fillLog(desk, 62);
        desk.say("DROP 4;");
        Desk.due("just room", base.used(), 64);
        Desk.due("no SAVE for it", base.saves(), 1);
        desk.say("DROP 5;");
        Desk.due("no room: a SAVE, and no block", base.used(), 0);
        Desk.due("saves", base.saves(), 2);
        fillLog(desk, 63);
        desk.say("DROP 6;");
        Desk.due("room for one of two", base.used(), 0);
        Desk.due("recover", base.recover(), 95);
    }

    /** Promise 21. */
    private static void saves() {
        Desk desk = new Desk();
        LandBase base = desk.base;
        desk.dueInts("SAVE;SAVE;BEGIN;SAVE;ABORT;SAVE;", 0, 0, 0, 6, 0, 0);
        Desk.due("saves", base.saves(), 3);
        base.crash(1, 2, 3);
        desk.say("SAVE;");
        Desk.due("one that fell; told while down", base.saves(), 3);
        base.recover();
        Desk.due("saves", base.saves(), 3);
        for (int i = 0; i < 33; i++) {
            desk.say("FILL 1 1 POINTS 0 0 9 9;");
            desk.say("DROP 1;");
        }
        Desk.due("two by full logs", base.saves(), 5);
        Desk.due("used", base.used(), 0);
    }

    /** Promise 22. */
    private static void flaws() {
        Desk desk = threeKinds();
        Desk.due("flaws", desk.base.flaws(), 0);
        desk.say("BEGIN;DROP 1;FILL 10 20 SQUARES -5 -5 100 1;");
        Desk.due("flaws in a transaction", desk.base.flaws(), 0);
        desk.base.crash(0, 2, 4);
        desk.say("COMMIT;");
        Desk.due("flaws while down", desk.base.flaws(), 0);
        desk.base.recover();
        Desk.due("flaws", desk.base.flaws(), 0);
        desk.say("?");
        Desk.due("flaws behind a wrong text", desk.base.flaws(), 0);
    }
}
