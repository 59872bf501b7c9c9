/** The edges of the statements of "3 STATEMENTS" that change something, sentence by sentence. */
public final class StatementEdgesTest {
    private static final String POINT = " POINT(1 2);";
    private static final String NOT_VALID = " LINESTRING(1 2);";

    public static void main(String[] args) {
        intsBeginWithNone();
        addIds();
        addLiveOnes();
        addManyPlaces();
        addManyRings();
        addWhen200AreLive();
        addOrder();
        drop();
        moveAll();
        moveBeyond();
        moveOrder();
        fillIds();
        fillNumbers();
        fillReach();
        fillLiveOnes();
        fillMost();
        fillOrder();
        fillGreatest();
        drawsWrap();
        drawsOfOne();
        transactions();
        abort();
        pack();
        save();
        refusedOnesChangeNothing();
        refusedOnesInATransaction();
        Desk.finish();
    }

    /** "run() begins with none": also one that does nothing. */
    private static void intsBeginWithNone() {
        Desk desk = new Desk();
        desk.dueInts("PACK;PACK;PACK;", 0, 0, 0);
        desk.dueInts("DROP 1;", 2);
        desk.dueInts("");
        Desk.due("out(0)", desk.base.out(0), 0);
        desk.dueInts("PACK;", 0);
        desk.dueWrong("?", 0, 0);
        desk.dueOut("a wrong tape");
    }

    /** "5 (id not 1 .. 9999)". */
    private static void addIds() {
        Desk desk = new Desk();
        for (String id : new String[] {"0", "-0", "-1", "10000", "-9999", "1073741823", "-1073741823", "65537", "16777217"}) {
            desk.dueRefused("ADD " + id + POINT, 5);
        }
        desk.dueInts("ADD 1" + POINT + "ADD 9999" + POINT + "ADD 0000000002" + POINT, 0, 0, 0);
        Desk.due("live", desk.base.live(), 3);
        Desk.due("idAt(0)", desk.base.idAt(0), 1);
        Desk.due("idAt(2)", desk.base.idAt(2), 9999);
    }

    /** "1 (LIVE already)": also one that a TRANSACTION added; not one that is LIVE no more. */
    private static void addLiveOnes() {
        Desk desk = new Desk();
        desk.dueInts("ADD 7" + POINT, 0);
        desk.dueRefused("ADD 7" + POINT, 1);
        desk.dueRefused("ADD 7 LINESTRING(5 5,6 6);", 1);
        desk.dueInts("BEGIN;ADD 8" + POINT, 0, 0);
        desk.dueRefused("ADD 8" + POINT, 1);
        desk.dueInts("DROP 7;ADD 7 POINT(3 3);DROP 7;DROP 8;ADD 8" + POINT + "ABORT;", 0, 0, 0, 0, 0, 0);
        desk.dueRefused("ADD 7" + POINT, 1);
        desk.dueInts("ADD 8" + POINT, 0);
    }

    private static String line(int places) {
        StringBuilder text = new StringBuilder(" LINESTRING(");
        for (int i = 0; i < places; i++) {
            text.append(i == 0 ? "" : ",").append(i).append(" ").append(i % 2);
        }
        return text + ")";
    }

    /** A valid ring of so many places, the closing one counted. */
    private static String ring(int places, int y) {
        StringBuilder text = new StringBuilder("(");
        for (int i = 0; i + 2 < places; i++) {
            text.append(i).append(" ").append(y).append(",");
        }
        return text + "0 " + (y + 1) + ",0 " + y + ")";
    }

    private static String holes(int count, int lastPlaces) {
        StringBuilder text = new StringBuilder(" POLYGON((-1 -1,99 -1,99 99,-1 99,-1 -1)");
        for (int i = 0; i < count; i++) {
            text.append(",").append(ring(i + 1 == count ? lastPlaces : 4, 3 * i));
        }
        return text + ")";
    }

    /** "4 (more than 40 places in all, closing ones counted ..)". */
    private static void addManyPlaces() {
        Desk desk = new Desk();
        desk.dueInts("ADD 1" + line(40) + ";", 0);
        Desk.due("places", desk.base.places(1), 40);
        Desk.due("the last place", desk.base.at(1, 39, 0), 39);
        desk.dueRefused("ADD 2" + line(41) + ";", 4);
        desk.dueRefused("ADD 2" + line(80) + ";", 4);
        desk.dueRefused("ADD 2" + line(500) + ";", 4);
        desk.dueInts("DROP 1;ADD 2 POLYGON(" + ring(40, 0) + ");", 0, 0);
        Desk.due("places", desk.base.places(2), 40);
        desk.dueRefused("ADD 3 POLYGON(" + ring(41, 0) + ");", 4);
        desk.dueInts("DROP 2;ADD 3" + holes(1, 35) + ";", 0, 0);
        Desk.due("places", desk.base.places(3), 40);
        Desk.due("the closing one", desk.base.at(3, 39, 1), 0);
        desk.dueInts("DROP 3;ADD 5" + holes(3, 27) + ";", 0, 0);
        Desk.due("places", desk.base.places(5), 40);
        desk.dueRefused("ADD 4" + holes(1, 36) + ";", 4);
        desk.dueRefused("ADD 4" + holes(3, 28) + ";", 4);
        desk.dueInts("FIND CONTAINS" + line(41) + ";FIND CONTAINS" + line(40) + ";", 4, 0, 0);
        desk.dueInts("FIND WITHIN" + holes(1, 36) + ";FIND WITHIN" + holes(1, 35) + ";", 4, 0, 0);
    }

    /** ".. or more than 8 rings)": also of few places. */
    private static void addManyRings() {
        Desk desk = new Desk();
        desk.dueInts("ADD 1" + holes(7, 4) + ";", 0);
        Desk.due("rings", desk.base.rings(1), 8);
        Desk.due("places", desk.base.places(1), 33);
        desk.dueRefused("ADD 2" + holes(8, 4) + ";", 4);
        desk.dueRefused("ADD 2" + holes(20, 4) + ";", 4);
        desk.dueRefused("ADD 2 POLYGON((1 1)" + ",(1 1)".repeat(8) + ");", 4);
        desk.dueRefused("ADD 2 POLYGON((1 1)" + ",(1 1)".repeat(7) + ");", 3);
        desk.dueRefused("ADD 2 POLYGON((1 1)" + ",(1 1)".repeat(400) + ");", 4);
        desk.dueInts("FIND WITHIN" + holes(8, 4) + ";FIND WITHIN" + holes(7, 4) + ";", 4, 0, 1, 1);
    }

    /** "4 (200 are LIVE ..)". */
    private static void addWhen200AreLive() {
        Desk desk = new Desk();
        desk.dueInts("FILL 1 100 POINTS 0 0 9 9;FILL 101 99 POINTS 0 0 9 9;", 0, 0);
        desk.dueInts("ADD 9999" + POINT + "ADD 9998" + POINT + "DROP 50;ADD 9998" + POINT + "ADD 50" + POINT, 0, 4, 0, 0, 4);
        Desk.due("live", desk.base.live(), 200);
        Desk.due("idAt(199)", desk.base.idAt(199), 9999);
        Desk.due("recover", desk.base.recover(), 200);
        desk.dueInts("BEGIN;DROP 51;ADD 50" + POINT + "ADD 51" + POINT + "ABORT;ADD 50" + POINT, 0, 0, 0, 4, 0, 4);
        desk.dueInts("BEGIN;DROP 51;ADD 50" + POINT + "COMMIT;ADD 51" + POINT, 0, 0, 0, 0, 4);
    }

    /** "the first of these in their order": 5, 1, 4 (places, rings), 3, 4 (200, ROOM). */
    private static void addOrder() {
        Desk desk = new Desk();
        desk.dueInts("FILL 1 100 POINTS 0 0 9 9;FILL 101 99 POINTS 0 0 9 9;", 0, 0);
        String large = line(41) + ";";
        String badLarge = " LINESTRING(0 0" + ",0 0".repeat(40) + ");";
        desk.dueInts("ADD 0" + large + "ADD 10000" + NOT_VALID + "ADD 1" + large + "ADD 1" + NOT_VALID, 5, 5, 1, 1);
        desk.dueInts("ADD 500" + badLarge + "ADD 500" + NOT_VALID + "ADD 500" + large, 4, 3, 4);
        desk.dueInts("ADD 200" + POINT, 0);
        desk.dueInts("ADD 0" + POINT + "ADD 1" + POINT + "ADD 500" + NOT_VALID + "ADD 500" + POINT + "ADD 500" + badLarge, 5, 1, 3, 4, 4);
        desk.dueInts("FIND WITHIN" + badLarge + "FIND WITHIN POLYGON((1 1)" + ",(1 1)".repeat(8) + ");", 4, 4);
        Desk room = new Desk();
        room.dueInts("ADD 1" + POINT + "ADD 9" + POINT, 0, 0);
        room.sayLong("BEGIN;" + Desk.bytes(14112));
        room.dueInts("ADD 0" + POINT + "ADD 1" + POINT + "ADD 5" + NOT_VALID + "ADD 5" + POINT, 5, 1, 3, 4);
    }

    /** "DROP: it is LIVE no more. 2 (not LIVE)". */
    private static void drop() {
        Desk desk = new Desk();
        for (String id : new String[] {"1", "0", "-1", "9999", "10000", "1073741823", "-1073741823"}) {
            desk.dueRefused("DROP " + id + ";", 2);
        }
        desk.dueInts("ADD 1" + POINT + "DROP 1;", 0, 0);
        desk.dueRefused("DROP 1;", 2);
        Desk.due("live", desk.base.live(), 0);
        Desk.due("kindOf", desk.base.kindOf(1), -1);
        Desk.due("at", desk.base.at(1, 0, 0), 0);
        int[] order = {3, 1, 5, 2, 4};
        desk.dueInts("ADD 1" + POINT + "ADD 2" + POINT + "ADD 3" + POINT + "ADD 4" + POINT + "ADD 5" + POINT, 0, 0, 0, 0, 0);
        for (int i = 0; i < 5; i++) {
            desk.dueInts("DROP " + order[i] + ";", 0);
            Desk.due("live", desk.base.live(), 4 - i);
            desk.dueRefused("DROP " + order[i] + ";", 2);
        }
    }

    /** "MOVE: all its places go dx and dy further." Of all rings; by nothing, too. */
    private static void moveAll() {
        Desk desk = new Desk();
        desk.dueInts("ADD 1 POLYGON((0 0,9 0,9 9,0 0),(5 3,6 3,6 4,5 3));ADD 2 LINESTRING(1 1,2 2);ADD 3 POINT(-4 4);", 0, 0, 0);
        String before = desk.state();
        desk.dueInts("MOVE 1 0 0;", 0);
        Desk.due("moved by nothing", desk.state().substring(12).equals(before.substring(12)), true);
        desk.dueInts("MOVE 1 10 -20;", 0);
        int[] xs = {0, 9, 9, 0, 5, 6, 6, 5};
        int[] ys = {0, 0, 9, 0, 3, 3, 4, 3};
        for (int i = 0; i < 8; i++) {
            Desk.due("x", desk.base.at(1, i, 0), xs[i] + 10);
            Desk.due("y", desk.base.at(1, i, 1), ys[i] - 20);
        }
        desk.dueInts("MOVE 2 -1 0;MOVE 3 0 1;WINDOW 9 -21 9 -20;WINDOW 10 -20 10 -20;", 0, 0, 0, 0, 0, 1, 1);
        Desk.due("x", desk.base.at(2, 1, 0), 1);
        Desk.due("y", desk.base.at(2, 1, 1), 2);
        Desk.due("y", desk.base.at(3, 0, 1), 5);
    }

    /** "5 (a place would have a number beyond 1073741823 in size)": on each of the four sides, whichever place it is. */
    private static void moveBeyond() {
        Desk desk = new Desk();
        desk.dueInts("ADD 1 LINESTRING(0 0,7 -5,-3 8,1 1);", 0);
        desk.dueRefused("MOVE 1 1073741817 0;", 5);
        desk.dueRefused("MOVE 1 -1073741821 0;", 5);
        desk.dueRefused("MOVE 1 0 1073741816;", 5);
        desk.dueRefused("MOVE 1 0 -1073741819;", 5);
        desk.dueRefused("MOVE 1 1073741823 1073741823;", 5);
        desk.dueInts("MOVE 1 1073741816 1073741815;", 0);
        Desk.due("the greatest x", desk.base.at(1, 1, 0), 1073741823);
        Desk.due("the greatest y", desk.base.at(1, 2, 1), 1073741823);
        desk.dueRefused("MOVE 1 1 0;", 5);
        desk.dueRefused("MOVE 1 0 1;", 5);
        desk.dueRefused("MOVE 1 1073741823 0;", 5);
        desk.dueInts("MOVE 1 -1073741816 -1073741815;MOVE 1 -1073741820 -1073741818;", 0, 0);
        Desk.due("the least x", desk.base.at(1, 2, 0), -1073741823);
        Desk.due("the least y", desk.base.at(1, 1, 1), -1073741823);
        desk.dueRefused("MOVE 1 -1 0;", 5);
        desk.dueRefused("MOVE 1 0 -1;", 5);
        desk.dueRefused("MOVE 1 -1073741823 -1073741823;", 5);
        desk.dueInts("ADD 2 POINT(1073741823 -1073741823);MOVE 2 -1073741823 1073741823;MOVE 2 -1073741823 1073741823;", 0, 0, 0);
        Desk.due("x", desk.base.at(2, 0, 0), -1073741823);
        Desk.due("y", desk.base.at(2, 0, 1), 1073741823);
    }

    /** 2, then 5, then 4. */
    private static void moveOrder() {
        Desk desk = new Desk();
        desk.dueRefused("MOVE 1 1073741823 1073741823;", 2);
        desk.dueRefused("MOVE 0 0 0;", 2);
        desk.dueRefused("MOVE 10000 0 0;", 2);
        desk.dueInts("ADD 1 POINT(1 1);ADD 9 POINT(1 1);", 0, 0);
        desk.sayLong("BEGIN;" + Desk.bytes(14112));
        desk.dueInts("MOVE 2 1073741823 0;MOVE 1 1073741823 0;MOVE 1 0 0;DROP 2;DROP 1;", 2, 5, 4, 2, 4);
    }

    /** "5 (id below 1, k not 1 .. 100, id + k - 1 above 9999 ..)". */
    private static void fillIds() {
        Desk desk = new Desk();
        String rest = " POINTS 0 0 5 5;";
        for (String ids : new String[] {"0 1", "-1 1", "-1 5", "0 100", "-1073741823 1", "1 0", "1 -1", "1 101", "1 1073741823",
            "1 -1073741823", "9999 2", "9901 100", "10000 1", "9950 51", "1073741823 1", "1073741823 100", "-1073741823 1073741823"}) {
            desk.dueRefused("FILL " + ids + rest, 5);
        }
        desk.dueInts("FILL 1 1" + rest + "FILL 9999 1" + rest, 0, 0);
        Desk.due("live", desk.base.live(), 2);
        Desk.due("idAt(1)", desk.base.idAt(1), 9999);
        desk.dueInts("DROP 9999;FILL 9900 100" + rest, 0, 0);
        Desk.due("live", desk.base.live(), 101);
        Desk.due("idAt(100)", desk.base.idAt(100), 9999);
        Desk.due("idAt(1)", desk.base.idAt(1), 9900);
    }

    /** "w not 1 .. 1000000000"; x, y and s may be any NUMBERS. */
    private static void fillNumbers() {
        Desk desk = new Desk();
        for (String w : new String[] {"0", "-1", "1000000001", "1073741823", "-1073741823", "-1000000000"}) {
            desk.dueRefused("FILL 1 1 POINTS -1073741823 -1073741823 " + w + " 5;", 5);
        }
        desk.dueInts("FILL 1 1 POINTS 0 0 1 5;FILL 2 1 POINTS 0 0 1000000000 5;", 0, 0);
        Desk.due("w 1 draws 0", desk.base.at(1, 0, 0), 0);
        desk.dueInts("FILL 3 1 POINTS -1073741823 -1073741823 1 5;FILL 4 1 SQUARES -1073741823 -1073741823 1000000000 -1073741823;", 0, 0);
        Desk.due("x", desk.base.at(3, 0, 0), -1073741823);
        desk.dueInts("FILL 5 1 LINES 0 0 7 1073741823;FILL 6 1 LINES 0 0 7 0;", 0, 0);
    }

    /** "x or y + w + w / 16 + 1 above 1073741823": of each, for small and great w, for each KIND. */
    private static void fillReach() {
        int[] ws = {1, 15, 16, 17, 31, 32, 1000, 1000000000};
        int[] reach = {2, 16, 18, 19, 33, 35, 1063, 1062500001};
        for (String kind : new String[] {"POINTS", "LINES", "SQUARES"}) {
            for (int i = 0; i < ws.length; i++) {
                Desk desk = new Desk();
                int most = 1073741823 - reach[i];
                String tail = " " + ws[i] + " 3;";
                desk.dueRefused("FILL 1 1 " + kind + " " + (most + 1) + " 0" + tail, 5);
                desk.dueRefused("FILL 1 1 " + kind + " 0 " + (most + 1) + tail, 5);
                desk.dueRefused("FILL 1 1 " + kind + " " + (most + 1) + " " + (most + 1) + tail, 5);
                desk.dueRefused("FILL 1 1 " + kind + " 1073741823 0" + tail, 5);
                desk.dueRefused("FILL 1 1 " + kind + " -1073741823 1073741823" + tail, 5);
                desk.dueInts("FILL 1 1 " + kind + " " + most + " " + most + tail, 0);
                Desk.due("live", desk.base.live(), 1);
            }
        }
    }

    /** "1 (one is LIVE)": the first, the last, one between; none of them comes then. */
    private static void fillLiveOnes() {
        for (int id : new int[] {10, 15, 19}) {
            Desk desk = new Desk();
            desk.dueInts("ADD " + id + POINT, 0);
            desk.dueRefused("FILL 10 10 LINES 0 0 5 5;", 1);
            desk.dueInts("DROP " + id + ";FILL 10 10 LINES 0 0 5 5;", 0, 0);
            Desk.due("live", desk.base.live(), 10);
        }
        Desk desk = new Desk();
        desk.dueInts("ADD 9" + POINT + "ADD 20" + POINT + "FILL 10 10 LINES 0 0 5 5;", 0, 0, 0);
        desk.dueInts("BEGIN;ADD 30" + POINT + "FILL 30 1 LINES 0 0 5 5;ABORT;FILL 30 1 LINES 0 0 5 5;", 0, 0, 1, 0, 0);
    }

    /** "4 (more than 200 would be LIVE ..)": 200 may be. */
    private static void fillMost() {
        Desk desk = new Desk();
        String tail = " POINTS 0 0 5 5;";
        desk.dueInts("FILL 1 100" + tail + "FILL 101 1" + tail + "FILL 201 100" + tail, 0, 0, 4);
        Desk.due("none of them came", desk.base.live(), 101);
        desk.dueInts("FILL 201 99" + tail + "FILL 301 1" + tail, 0, 4);
        Desk.due("live", desk.base.live(), 200);
        desk.dueInts("DROP 1;FILL 301 2" + tail + "FILL 301 1" + tail + "FILL 302 1" + tail, 0, 4, 0, 4);
        Desk.due("live", desk.base.live(), 200);
    }

    /** 5, then 1, then 4. */
    private static void fillOrder() {
        Desk desk = new Desk();
        String tail = " POINTS 0 0 5 5;";
        desk.dueInts("FILL 1 100" + tail + "FILL 101 100" + tail, 0, 0);
        desk.dueInts("FILL 1 101" + tail + "FILL 0 1" + tail + "FILL 1 1 POINTS 0 0 0 5;FILL 500 1 POINTS 1073741823 0 5 5;", 5, 5, 5, 5);
        desk.dueInts("FILL 200 2" + tail + "FILL 201 2" + tail, 1, 4);
        Desk room = new Desk();
        room.dueInts("ADD 1" + POINT + "ADD 9" + POINT, 0, 0);
        room.sayLong("BEGIN;" + Desk.bytes(14112));
        room.dueInts("FILL 0 1" + tail + "FILL 1 1" + tail + "FILL 2 1" + tail, 5, 1, 4);
        Desk.due("live", room.base.live(), 2);
    }

    /** At the reach's very end, no place is beyond 1073741823. */
    private static void fillGreatest() {
        String[] kinds = {"POINTS", "LINES", "SQUARES"};
        for (int kind = 0; kind < 3; kind++) {
            Desk desk = new Desk();
            desk.dueInts("FILL 1 100 " + kinds[kind] + " 1073741805 1073741805 16 7;", 0);
            desk.say("WINDOW 1073741805 1073741805 1073741823 1073741823;");
            Desk.due("all of them are there", desk.base.out(1), 100);
            int greatest = 0;
            for (int id = 1; id <= 100; id++) {
                greatest = Math.max(greatest, desk.base.at(id, kind, 0));
            }
            Desk.due("greatest of " + kinds[kind], greatest, kind == 0 ? 1073741820 : 1073741822);
        }
    }

    /** "s becomes s * 1103515245 + 12345 (an int, wrapping)", "the 24 upper bits of s, as a number of 0 or more". */
    private static void drawsWrap() {
        int[] seeds = {0, 1, -1, 1073741823, -1073741823, 536870912, 12345, -12345};
        boolean sawNegative = false;
        for (int seed : seeds) {
            Desk desk = new Desk();
            desk.dueInts("FILL 1 20 POINTS 0 0 1000000000 " + seed + ";", 0);
            long s = seed & 0xFFFFFFFFL;
            for (int id = 1; id <= 20; id++) {
                for (int part = 0; part < 2; part++) {
                    s = (s * 1103515245L + 12345L) % 4294967296L;
                    sawNegative |= s >= 2147483648L;
                    Desk.due("a draw of the seed " + seed, desk.base.at(id, 0, part), s / 256);
                }
            }
        }
        Desk.due("some of the ints were below 0", sawNegative, true);
    }

    /** "DRAWS of w / 16 + 1": it is 1 up to 15, and 2 from 16 on; the other end is p + (c + 1, d). */
    private static void drawsOfOne() {
        for (int w : new int[] {1, 15, 16, 31, 32}) {
            Desk desk = new Desk();
            desk.dueInts("FILL 1 60 LINES 0 0 " + w + " 5;FILL 101 60 SQUARES 0 0 " + w + " 5;", 0, 0);
            int[] most = new int[3];
            int least = 9;
            for (int id = 1; id <= 60; id++) {
                most[0] = Math.max(most[0], desk.base.at(id, 1, 0) - desk.base.at(id, 0, 0));
                most[1] = Math.max(most[1], desk.base.at(id, 1, 1) - desk.base.at(id, 0, 1));
                int side = desk.base.at(100 + id, 1, 0) - desk.base.at(100 + id, 0, 0);
                most[2] = Math.max(most[2], side);
                least = Math.min(least, side);
            }
            Desk.due("the greatest c + 1", most[0], w / 16 + 1);
            Desk.due("the greatest d", most[1], w / 16);
            Desk.due("the greatest e", most[2], w / 16 + 1);
            Desk.due("the least e", least, 1);
        }
    }

    /** "BEGIN: .. 6 (one is). COMMIT, ABORT: 6 (none is)." */
    private static void transactions() {
        Desk desk = new Desk();
        desk.dueRefused("COMMIT;", 6);
        desk.dueRefused("ABORT;", 6);
        desk.dueInts("BEGIN;", 0);
        desk.dueRefused("BEGIN;", 6);
        desk.dueInts("ADD 1" + POINT, 0);
        desk.dueRefused("BEGIN;", 6);
        desk.dueInts("COMMIT;", 0);
        desk.dueRefused("COMMIT;", 6);
        desk.dueRefused("ABORT;", 6);
        desk.dueInts("BEGIN;DROP 1;ABORT;", 0, 0, 0);
        desk.dueRefused("ABORT;", 6);
        desk.dueRefused("COMMIT;", 6);
        Desk.due("live", desk.base.live(), 1);
        // A BEGIN that is refused is no new beginning.
        desk.dueInts("BEGIN;DROP 1;BEGIN;ABORT;", 0, 0, 6, 0);
        Desk.due("live", desk.base.live(), 1);
    }

    /** "ABORT: what was LIVE at BEGIN is LIVE again": also of an empty one, and of one that changed all of them. */
    private static void abort() {
        Desk desk = new Desk();
        desk.dueInts("BEGIN;ABORT;", 0, 0);
        desk.dueInts("ADD 1 POINT(5 5);ADD 2 LINESTRING(0 0,1 1);ADD 3 POLYGON((0 0,9 0,9 9,0 0),(5 3,6 3,6 4,5 3));", 0, 0, 0);
        String before = desk.state();
        desk.dueInts("BEGIN;DROP 1;MOVE 2 7 7;DROP 3;ADD 3 POINT(1 1);ADD 1 POINT(2 2);FILL 4 30 SQUARES 0 0 50 1;ABORT;", 0, 0, 0, 0, 0, 0, 0, 0);
        Desk.due("as it was", desk.state().equals(before), true);
        desk.dueInts("BEGIN;DROP 1;DROP 2;DROP 3;ABORT;", 0, 0, 0, 0, 0);
        Desk.due("as it was", desk.state().equals(before), true);
        desk.dueInts("BEGIN;MOVE 1 1 1;MOVE 1 1 1;MOVE 1 -2 -2;ABORT;BEGIN;ABORT;", 0, 0, 0, 0, 0, 0, 0);
        Desk.due("as it was", desk.state().equals(before), true);
    }

    /** "PACK: nothing is to be seen of it": empty, full, in a TRANSACTION, which it neither ends nor makes larger. */
    private static void pack() {
        Desk desk = new Desk();
        desk.dueRefused("PACK;", 0);
        desk.dueInts("ADD 1 POINT(1 1);ADD 2 POLYGON((0 0,9 0,9 9,0 0));DROP 1;", 0, 0, 0);
        desk.dueRefused("PACK;", 0);
        desk.dueInts("BEGIN;DROP 2;ADD 3 POINT(4 4);", 0, 0, 0);
        desk.dueRefused("PACK;", 0);
        desk.dueInts("ABORT;", 0);
        Desk.due("live", desk.base.live(), 1);
        desk.base.crash(0, 1, 0);
        desk.dueRefused("PACK;", 0);
        desk.base.crash(1, 1, 0);
        desk.dueRefused("PACK;", 0);
        Desk full = new Desk();
        full.dueInts("FILL 1 100 POINTS 0 0 9 9;FILL 101 100 POINTS 0 0 9 9;PACK;ADD 201 POINT(0 0);", 0, 0, 0, 4);
        Desk.due("live", full.base.live(), 200);
    }

    /** "SAVE: see 4. 6 (a TRANSACTION is open)." */
    private static void save() {
        Desk desk = new Desk();
        desk.dueInts("SAVE;", 0);
        Desk.due("saves", desk.base.saves(), 1);
        desk.dueInts("BEGIN;ADD 1 POINT(1 1);", 0, 0);
        desk.dueRefused("SAVE;", 6);
        desk.dueInts("ABORT;SAVE;", 0, 0);
        Desk.due("saves", desk.base.saves(), 2);
        Desk.due("what was aborted", desk.base.recover(), 0);
    }

    /** "REFUSED (then it changes nothing)": each of the reasons, without a TRANSACTION. */
    private static void refusedOnesChangeNothing() {
        Desk desk = new Desk();
        desk.dueInts("ADD 1 POINT(5 5);ADD 2 LINESTRING(0 0,1 1);ADD 3 POLYGON((0 0,9 0,9 9,0 0));SAVE;DROP 2;", 0, 0, 0, 0, 0);
        String[] refused = {"5 ADD 0" + POINT, "1 ADD 3" + POINT, "4 ADD 4" + line(41) + ";", "3 ADD 4" + NOT_VALID, "2 DROP 2;",
            "2 MOVE 2 1 1;", "5 MOVE 3 1073741823 0;", "5 FILL 0 1 POINTS 0 0 1 1;", "1 FILL 1 2 POINTS 0 0 1 1;", "6 COMMIT;", "6 ABORT;",
            "4 FIND WITHIN" + line(41) + ";", "3 FIND WITHIN" + NOT_VALID, "5 WINDOW 1 1 0 0;", "5 NEAR 0 0 0;", "5 JOIN WITHIN 2 1 1 1;"};
        for (String row : refused) {
            desk.dueRefused(row.substring(2), row.charAt(0) - '0');
        }
        Desk.due("used", desk.base.used(), 2);
        Desk.due("recover", desk.base.recover(), 2);
    }

    /** REFUSED ones count no BYTES, and neither close a TRANSACTION nor go out with it. */
    private static void refusedOnesInATransaction() {
        Desk desk = new Desk();
        desk.dueInts("ADD 1 POINT(5 5);ADD 9 POINT(1 1);SAVE;BEGIN;", 0, 0, 0, 0);
        String[] refused = {"5 ADD 0" + POINT, "1 ADD 9" + POINT, "4 ADD 4" + line(41) + ";", "3 ADD 4" + NOT_VALID, "2 DROP 2;",
            "2 MOVE 2 1 1;", "5 MOVE 1 1073741823 0;", "5 FILL 0 1 POINTS 0 0 1 1;", "1 FILL 1 2 POINTS 0 0 1 1;", "6 BEGIN;", "6 SAVE;",
            "4 FIND WITHIN" + line(41) + ";", "3 FIND WITHIN" + NOT_VALID, "5 WINDOW 1 1 0 0;", "5 NEAR 0 0 0;", "5 JOIN WITHIN 2 1 1 1;"};
        for (String row : refused) {
            desk.dueRefused(row.substring(2), row.charAt(0) - '0');
        }
        desk.say(Desk.bytes(224) + "COMMIT;");
        Desk.due("224 bytes", desk.base.used(), 2);
    }
}
