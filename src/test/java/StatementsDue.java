/** What run() does by each statement, and why it refuses it. */
final class StatementsDue {
    private StatementsDue() {
    }

    static void all() {
        add();
        addSizes();
        addRoom();
        valid();
        drop();
        move();
        fill();
        fillDraws();
        transactions();
        room();
        find();
        window();
        near();
        join();
        ints();
    }

    private static void add() {
        Desk desk = new Desk();
        desk.dueInts("ADD 0 POINT(0 0);ADD 10000 POINT(0 0);ADD -1 POINT(0 0);", 5, 5, 5);
        desk.dueInts("ADD 1 POINT(0 0);ADD 9999 POINT(0 0);ADD 1 POINT(0 0);ADD 1 LINESTRING(0 0);", 0, 0, 1, 1);
        desk.dueInts("ADD 0 LINESTRING(0 0);ADD 2 LINESTRING(0 0);", 5, 3);
    }

    private static String zigzag(int places) {
        StringBuilder text = new StringBuilder("LINESTRING(");
        for (int i = 0; i < places; i++) {
            text.append(i > 0 ? "," : "").append(i % 2).append(" 0");
        }
        return text + ")";
    }

    private static String holes(int rings, String last) {
        StringBuilder text = new StringBuilder("POLYGON((0 0,100 0,100 100,0 0)");
        for (int r = 1; r < rings; r++) {
            int x = 10 * r;
            text.append(",(").append(x).append(" 2,").append(x + 1).append(" 2,").append(x + 1).append(" 3,");
            text.append(x).append(" 2)");
        }
        return text + last + ")";
    }

    private static void addSizes() {
        Desk desk = new Desk();
        desk.dueInts("ADD 1 " + zigzag(40) + ";ADD 2 " + zigzag(41) + ";ADD 3 " + zigzag(500) + ";", 0, 4, 4);
        Desk.due("places", desk.base.places(1), 40);
        desk.dueInts("ADD 4 " + holes(8, "") + ";ADD 5 " + holes(9, "") + ";ADD 6 " + holes(20, "") + ";", 0, 4, 4);
        Desk.due("rings", desk.base.rings(4), 8);
        Desk.due("places", desk.base.places(4), 32);
        String nine = ",(90 5,91 5,91 6,92 6,93 6,94 7,90 7,90 6,90 5)";
        desk.dueInts("ADD 7 " + holes(7, nine) + ";", 0);
        // 41 places, not valid either: it is too large first
        desk.dueInts("ADD 8 " + holes(8, nine) + ";FIND WITHIN " + zigzag(41) + ";FIND WITHIN " + holes(9, "") + ";", 4, 4, 4);
        desk.dueInts("ADD 1 " + zigzag(41) + ";ADD 0 " + zigzag(41) + ";", 1, 5);
    }

    private static void addRoom() {
        Desk desk = new Desk();
        desk.dueInts("FILL 1 100 POINTS 0 0 9 9;FILL 101 99 POINTS 0 0 9 9;FILL 300 2 POINTS 0 0 9 9;", 0, 0, 4);
        desk.dueInts("ADD 200 POINT(0 0);ADD 201 POINT(0 0);ADD 201 LINESTRING(0 0);FILL 201 1 LINES 0 0 9 9;", 0, 4, 3, 4);
        desk.dueInts("BEGIN;DROP 7;ADD 201 POINT(0 0);ADD 7 POINT(0 0);COMMIT;", 0, 0, 0, 4, 0);
    }

    private static void dueCode(Desk desk, int code, String shape) {
        desk.dueInts("FIND DISJOINT " + shape + ";", code == 0 ? new int[] {0, 0} : new int[] {code});
    }

    /** HolesTest and GeometryTest compare many more. */
    private static void valid() {
        Desk desk = new Desk();
        String shell = "POLYGON((0 0,10 0,10 10,0 10,0 0)";
        dueCode(desk, 0, "POINT(1 1)");
        dueCode(desk, 3, "LINESTRING(1 1)");
        dueCode(desk, 3, "LINESTRING(1 1,1 1)");
        dueCode(desk, 3, "LINESTRING(1 1,2 2,2 2)");
        dueCode(desk, 0, "LINESTRING(1 1,2 2,1 1,2 2)");
        dueCode(desk, 3, "POLYGON((0 0))");
        dueCode(desk, 3, "POLYGON((0 0,1 1,0 0))");
        dueCode(desk, 0, "POLYGON((0 0,1 1,0 1,0 0))");
        dueCode(desk, 3, "POLYGON((0 0,1 1,0 1,1 0))");
        dueCode(desk, 3, "POLYGON((0 0,0 0,1 1,0 1,0 0))");
        dueCode(desk, 3, "POLYGON((0 0,1 1,0 1,0 0,0 0))");
        dueCode(desk, 3, "POLYGON((0 0,1 1,2 2,0 0))");
        dueCode(desk, 3, "POLYGON((0 0,2 2,2 0,0 2,0 0))");
        dueCode(desk, 3, "POLYGON((0 0,4 0,2 0,2 2,0 0))");
        dueCode(desk, 3, "POLYGON((0 0,4 0,4 4,2 0,0 4,0 0))");
        dueCode(desk, 0, "POLYGON((0 0,2 0,4 0,4 4,0 4,0 0))");
        dueCode(desk, 3, "POLYGON((0 0,2 0,2 2,4 2,4 4,2 4,2 2,0 2,0 0))");
        dueCode(desk, 0, shell + ",(2 2,4 2,4 4,2 2))");
        dueCode(desk, 3, shell + ",(2 2,4 2,4 4))");
        dueCode(desk, 3, shell + ",(2 2))");
        dueCode(desk, 3, shell + ",(2 2,3 3))");
        dueCode(desk, 3, shell + ",(2 2,3 3,2 2))");
        dueCode(desk, 3, shell + ",(2 2,4 2,4 4,2 2),(7 7))");
        dueCode(desk, 3, shell + ",(20 2,24 2,24 4,20 2))");
        dueCode(desk, 3, shell + ",(8 2,14 2,8 4,8 2))");
        dueCode(desk, 3, shell + ",(-5 -5,20 -5,20 20,-5 20,-5 -5))");
        dueCode(desk, 3, shell + ",(0 0,10 0,10 10,0 10,0 0))");
        dueCode(desk, 0, shell + ",(0 5,2 4,2 6,0 5))");
        dueCode(desk, 0, shell + ",(0 0,2 1,1 2,0 0))");
        dueCode(desk, 3, shell + ",(0 4,2 4,2 6,0 6,0 4))");
        dueCode(desk, 3, shell + ",(0 5,5 4,10 5,5 6,0 5))");
        dueCode(desk, 3, shell + ",(2 2,6 2,6 6,2 6,2 2),(3 3,4 3,4 4,3 3))");
        dueCode(desk, 3, shell + ",(3 3,4 3,4 4,3 3),(2 2,6 2,6 6,2 6,2 2))");
        dueCode(desk, 3, shell + ",(2 2,6 2,6 6,2 6,2 2),(2 2,6 2,6 6,2 6,2 2))");
        dueCode(desk, 3, shell + ",(2 2,6 2,6 6,2 6,2 2),(4 4,8 4,8 8,4 8,4 4))");
        dueCode(desk, 3, shell + ",(2 2,4 2,4 4,2 4,2 2),(4 2,6 2,6 4,4 4,4 2))");
        dueCode(desk, 0, shell + ",(2 2,4 2,4 4,2 4,2 2),(4 4,6 4,6 6,4 6,4 4))");
        dueCode(desk, 0, shell + ",(2 2,4 2,4 4,2 4,2 2),(4 3,6 3,6 6,4 3))");
        dueCode(desk, 3, shell + ",(0 5,4 4,4 5,0 5),(4 5,10 5,6 6,4 5))");
        dueCode(desk, 3, shell + ",(2 2,4 2,4 4,2 2),(4 4,6 2,8 2,8 8,4 4),(4 2,5 1,6 2,4 2))");
        dueCode(desk, 0, shell + ",(5 5,6 7,4 7,5 5),(5 5,7 4,7 6,5 5),(5 5,3 4,3 6,5 5),(5 5,4 3,6 3,5 5))");
    }

    private static void drop() {
        Desk desk = new Desk();
        desk.dueInts("DROP 1;ADD 1 POINT(0 0);DROP 1;DROP 1;DROP 0;DROP -1;DROP 10000;", 2, 0, 0, 2, 2, 2, 2);
        Desk.due("live", desk.base.live(), 0);
        desk.dueInts("ADD 1 POINT(7 7);ADD 2 POINT(8 8);DROP 1;ADD 1 POINT(9 9);", 0, 0, 0, 0);
        Desk.due("the new one", desk.base.at(1, 0, 0), 9);
        Desk.due("the other one", desk.base.at(2, 0, 0), 8);
    }

    private static void move() {
        Desk desk = new Desk();
        desk.dueInts("ADD 1 POLYGON((0 0,9 0,9 9,0 0),(5 3,6 3,6 4,5 3));MOVE 1 100 -200;MOVE 2 0 0;", 0, 0, 2);
        Desk.due("x", desk.base.at(1, 4, 0), 105);
        Desk.due("y", desk.base.at(1, 7, 1), -197);
        Desk.due("rings", desk.base.rings(1), 2);
        desk.dueInts("MOVE 1 1073741714 0;MOVE 1 1 0;MOVE 1 -1073741823 0;MOVE 1 -1073741815 0;MOVE 1 -1073741814 0;MOVE 1 0 -1073741623;",
            0, 5, 0, 5, 0, 0);
        Desk.due("x", desk.base.at(1, 0, 0), -1073741823);
        Desk.due("y", desk.base.at(1, 0, 1), -1073741823);
        desk.dueInts("MOVE 1 0 -1;MOVE 1 -1 0;MOVE 1 0 0;", 5, 5, 0);
        desk.dueInts("ADD 5 POINT(1073741823 -1073741823);MOVE 5 1073741823 0;MOVE 5 0 -1073741823;MOVE 5 -1073741823 1073741823;", 0, 5, 5, 0);
        Desk.due("x", desk.base.at(5, 0, 0), 0);
        desk.dueInts("WINDOW -1073741823 -1073741823 -1073741823 -1073741823;", 0, 1, 1);
    }

    private static void fill() {
        Desk desk = new Desk();
        desk.dueInts("FILL 0 1 POINTS 0 0 1 1;FILL 1 0 POINTS 0 0 1 1;FILL 1 101 POINTS 0 0 1 1;FILL 9999 2 POINTS 0 0 1 1;", 5, 5, 5, 5);
        desk.dueInts("FILL 1 1 POINTS 0 0 0 1;FILL 1 1 POINTS 0 0 1000000001 1;FILL 1 1 POINTS 0 0 -5 1;", 5, 5, 5);
        desk.dueInts("FILL 1 1 POINTS 11241823 0 1000000000 1;FILL 1 1 POINTS 11241822 0 1000000000 1;", 5, 0);
        desk.dueInts("FILL 2 1 POINTS 0 11241823 1000000000 1;FILL 2 1 POINTS 0 11241822 1000000000 1;", 5, 0);
        desk.dueInts("FILL 3 1 LINES 1073741821 0 1 1;FILL 3 1 LINES 1073741822 0 1 1;", 0, 5);
        desk.dueInts("FILL 9900 100 SQUARES -1073741823 -1073741823 1 1;FILL 9999 1 LINES 0 0 1 1;FILL 9899 2 LINES 0 0 1 1;", 0, 1, 1);
        desk.dueInts("FILL 1 100 LINES 0 0 1 1;FILL 0 100 LINES 0 0 1 1;FILL -1073741823 100 LINES 0 0 1 1;", 1, 5, 5);
        desk.dueInts("FILL 1073741823 100 LINES 0 0 1 1;FILL 1 1073741823 LINES 0 0 1 1;FILL 5 98 LINES 0 0 1 1;", 5, 5, 4);
        Desk.due("live", desk.base.live(), 103);
        // e is 1 for w = 1
        Desk.due("a square", desk.base.at(9900, 2, 0), -1073741822);
    }

    /** The draws of some seeds, by long arithmetic. */
    private static void fillDraws() {
        int[] seeds = {0, 1, -1, 1073741823, -1073741823, 99};
        String[] kinds = {"POINTS", "LINES", "SQUARES"};
        for (int seed : seeds) {
            for (int kind = 0; kind < 3; kind++) {
                Desk desk = new Desk();
                desk.dueInts("FILL 10 40 " + kinds[kind] + " -50 70 1000 " + seed + ";", 0);
                long s = seed;
                for (int id = 10; id < 50; id++) {
                    long[] draws = new long[4];
                    for (int i = 0; i < (kind == 0 ? 2 : kind == 1 ? 4 : 3); i++) {
                        s = (s * 1103515245L + 12345L) & 0xFFFFFFFFL;
                        draws[i] = (s >> 8) % (i < 2 ? 1000 : 1000 / 16 + 1);
                    }
                    long x = -50 + draws[0];
                    long y = 70 + draws[1];
                    LandBase base = desk.base;
                    Desk.due("kind", base.kindOf(id), kind);
                    Desk.due("places", base.places(id), kind == 0 ? 1 : kind == 1 ? 2 : 5);
                    Desk.due("x", base.at(id, 0, 0), x);
                    Desk.due("y", base.at(id, 0, 1), y);
                    if (kind == 1) {
                        Desk.due("x of the other end", base.at(id, 1, 0), x + draws[2] + 1);
                        Desk.due("y of the other end", base.at(id, 1, 1), y + draws[3]);
                    } else if (kind == 2) {
                        long e = draws[2] + 1;
                        long[] xs = {x, x + e, x + e, x, x};
                        long[] ys = {y, y, y + e, y + e, y};
                        for (int i = 0; i < 5; i++) {
                            Desk.due("corner x", base.at(id, i, 0), xs[i]);
                            Desk.due("corner y", base.at(id, i, 1), ys[i]);
                        }
                    }
                }
            }
        }
    }

    private static void transactions() {
        Desk desk = new Desk();
        desk.dueInts("COMMIT;ABORT;BEGIN;BEGIN;SAVE;PACK;ADD 1 POINT(1 1);ABORT;ABORT;", 6, 6, 0, 6, 6, 0, 0, 0, 6);
        Desk.due("live", desk.base.live(), 0);
        desk.dueInts("ADD 1 POINT(1 1);ADD 2 POINT(2 2);BEGIN;MOVE 1 5 5;DROP 2;ADD 3 POINT(3 3);NEAR 3 0 0;", 0, 0, 0, 0, 0, 0, 0, 2, 3, 1);
        desk.dueInts("ABORT;NEAR 3 0 0;", 0, 0, 2, 1, 2);
        Desk.due("at", desk.base.at(1, 0, 0), 1);
        desk.dueInts("BEGIN;MOVE 1 5 5;DROP 2;ADD 3 POINT(3 3);COMMIT;ABORT;NEAR 3 0 0;", 0, 0, 0, 0, 0, 6, 0, 2, 3, 1);
        Desk.due("recover", desk.base.recover(), 2);
        Desk.due("at", desk.base.at(1, 0, 0), 6);
        desk.dueInts("BEGIN;DROP 1;DROP 1;ADD 1 POINT(8 8);COMMIT;PACK;SAVE;PACK;", 0, 0, 2, 0, 0, 0, 0, 0);
        Desk.due("recover", desk.base.recover(), 2);
        Desk.due("at", desk.base.at(1, 0, 0), 8);
    }

    /** 14112 bytes are 63 blocks: a transaction of these fills an empty log just so. */
    private static void room() {
        Desk desk = new Desk();
        desk.dueInts("ADD 1 POINT(0 0);ADD 2 POINT(0 0);SAVE;BEGIN;", 0, 0, 0, 0);
        StringBuilder moves = new StringBuilder();
        for (int i = 0; i < 294; i++) {
            moves.append("MOVE 1 1 0;");
        }
        desk.say(moves.toString());
        desk.say(moves.toString());
        Desk.due("588 moves, 9408 bytes", desk.base.at(1, 0, 0), 588);
        desk.say(moves.toString());
        Desk.due("14112 bytes", desk.base.at(1, 0, 0), 882);
        Desk.due("run", desk.base.outputs(), 294);
        Desk.due("the last", desk.base.out(293), 0);
        desk.dueInts("MOVE 1 1 0;DROP 2;FILL 5 1 POINTS 0 0 1 1;ADD 3 POINT(0 0);ADD 4 LINESTRING(0 0);", 4, 4, 4, 4, 3);
        desk.dueInts("MOVE 3 1 0;MOVE 1 1073741823 0;DROP 3;FILL 1 1 POINTS 0 0 1 1;NEAR 1 0 0;", 2, 5, 2, 1, 0, 1, 2);
        desk.dueInts("COMMIT;", 0);
        Desk.due("used", desk.base.used(), 64);
        Desk.due("saves", desk.base.saves(), 1);
        desk.dueInts("BEGIN;MOVE 1 1 0;ABORT;BEGIN;", 0, 0, 0, 0);
        moves.setLength(11 * 293);
        for (int i = 0; i < 3; i++) {
            desk.say(moves.toString());
        }
        desk.dueInts("MOVE 1 1 0;MOVE 1 1 0;ADD 3 POINT(0 0);DROP 2;ADD 3 POINT(0 0);", 0, 0, 4, 0, 4);
        desk.dueInts("MOVE 1 1 0;DROP 1;ABORT;", 4, 0, 0);
        Desk.due("a polygon's bytes", polygonBytes(), 14112);
    }

    /** How many bytes a transaction of polygons of 16 + 8 + 64 bytes and drops holds. */
    private static int polygonBytes() {
        Desk desk = new Desk();
        desk.say("BEGIN;");
        int bytes = 0;
        while (bytes < 20000) {
            desk.say("ADD 1 POLYGON((0 0,9 0,9 9,0 0),(5 3,6 3,6 4,5 3));");
            if (desk.base.out(0) != 0) {
                break;
            }
            bytes += 88;
            desk.say("DROP 1;");
            if (desk.base.out(0) != 0) {
                break;
            }
            bytes += 8;
        }
        return bytes;
    }

    private static void find() {
        Desk desk = new Desk();
        desk.dueInts("ADD 5 POINT(1 1);ADD 3 POLYGON((0 0,4 0,4 4,0 4,0 0));ADD 9 LINESTRING(4 4,8 8);ADD 1 POINT(9 9);", 0, 0, 0, 0);
        desk.dueInts("FIND INTERSECTS POINT(1 1);FIND DISJOINT POINT(1 1);", 0, 2, 3, 5, 0, 2, 1, 9);
        desk.dueInts("FIND WITHIN POLYGON((0 0,5 0,5 5,0 5,0 0));FIND CONTAINS POINT(2 2);", 0, 2, 3, 5, 0, 1, 3);
        desk.dueInts("FIND TOUCHES LINESTRING(4 4,4 9);FIND TOUCHES POINT(4 4);", 0, 2, 3, 9, 0, 2, 3, 9);
        desk.dueInts("FIND CONTAINS LINESTRING(5 5,7 7);FIND WITHIN LINESTRING(5 5,7 7);", 0, 1, 9, 0, 0);
        Desk.due("live", desk.base.live(), 4);
    }

    private static void window() {
        Desk desk = new Desk();
        desk.dueInts("WINDOW 0 0 0 0;WINDOW 1 0 0 0;WINDOW 0 1 0 0;WINDOW 0 1 0 1;", 0, 0, 5, 5, 0, 0);
        desk.say("ADD 5 POINT(1 1);ADD 3 POLYGON((0 0,9 0,9 9,0 9,0 0),(2 2,7 2,7 7,2 7,2 2));ADD 9 LINESTRING(4 -1,-1 4);");
        desk.dueInts("WINDOW 1 1 1 1;WINDOW 3 3 6 6;WINDOW 3 3 7 6;WINDOW 8 8 8 8;WINDOW 9 9 20 20;", 0, 2, 3, 5, 0, 0, 0, 1, 3, 0, 1, 3, 0, 1, 3);
        desk.dueInts("WINDOW -5 -5 -1 -1;WINDOW -5 -5 1 2;WINDOW 0 0 1 1;WINDOW -9 -9 99 99;", 0, 0, 0, 3, 3, 5, 9, 0, 2, 3, 5, 0, 3, 3, 5, 9);
        desk.dueInts("WINDOW -1073741823 -1073741823 1073741823 1073741823;", 0, 3, 3, 5, 9);
    }

    private static void near() {
        Desk desk = new Desk();
        desk.dueInts("NEAR 1 0 0;NEAR 0 0 0;NEAR 201 0 0;NEAR -1 0 0;NEAR 200 0 0;", 0, 0, 5, 5, 5, 0, 0);
        desk.say("ADD 5 POINT(5 0);ADD 3 POINT(3 4);ADD 9 LINESTRING(-3 5,3 5);ADD 1 POINT(0 6);ADD 2 POLYGON((-1 -1,1 -1,1 1,-1 1,-1 -1));");
        desk.dueInts("NEAR 200 0 0;NEAR 1 0 0;NEAR 2 0 0;NEAR 4 0 0;", 0, 5, 2, 3, 5, 9, 1, 0, 1, 2, 0, 2, 2, 3, 0, 4, 2, 3, 5, 9);
        // the root of a half is less than 1
        desk.say("ADD 11 LINESTRING(101 100,100 101);ADD 10 POINT(99 100);");
        desk.dueInts("NEAR 2 100 100;", 0, 2, 11, 10);
    }

    private static void join() {
        Desk desk = new Desk();
        desk.say("ADD 1 POINT(0 0);ADD 2 POINT(0 0);ADD 64 POINT(5 5);ADD 65 LINESTRING(0 0,5 5);");
        desk.dueInts("JOIN INTERSECTS 1 64 1 64;", 0, 2, 1, 2, 2, 1);
        desk.dueInts("JOIN TOUCHES 1 64 2 65;JOIN TOUCHES 65 65 1 1;", 0, 3, 1, 65, 2, 65, 64, 65, 0, 1, 65, 1);
        desk.dueInts("JOIN DISJOINT 1 64 1 64;", 0, 4, 1, 64, 2, 64, 64, 1, 64, 2);
        desk.dueInts("JOIN DISJOINT 1 65 1 64;JOIN DISJOINT 1 64 1 65;JOIN DISJOINT 2 1 1 1;JOIN DISJOINT 1 1 2 1;", 5, 5, 5, 5);
        desk.dueInts("JOIN WITHIN -1073741823 1073741823 1 1;JOIN WITHIN -63 0 10000 10063;JOIN WITHIN 5 5 5 5;", 5, 0, 0, 0, 0);
    }

    /** Questions may bring the ints to 19000, and no further; a tape of 4000 bytes ends behind that. */
    private static void ints() {
        Desk desk = new Desk();
        desk.say("FILL 1 64 POINTS 0 0 1000000 3;FILL 100 64 POINTS 0 0 1000000 4;FILL 200 20 POINTS 5000000 0 100 4;");
        // 2 + 2 * 4096 ints each
        String join = "JOIN DISJOINT 1 64 100 163;";
        desk.say(join + join);
        Desk.due("two joins", desk.base.outputs(), 16388);
        desk.say(join + join + join + "PACK;");
        Desk.due("three joins", desk.base.outputs(), 16390);
        Desk.due("the third", desk.base.out(16388), 7);
        Desk.due("behind it", desk.base.out(16389), 0);
        // 2612 more: 17 windows of 2 + 148, 62 left
        StringBuilder windows = new StringBuilder(join + join);
        for (int i = 0; i < 17; i++) {
            windows.append("WINDOW 0 0 5000100 1000000;");
        }
        desk.say(windows + "NEAR 60 0 0;");
        Desk.due("19000", desk.base.outputs(), 19000);
        Desk.due("last is an id", desk.base.out(18999) > 0, true);
        desk.say(windows + "NEAR 61 0 0;NEAR 60 0 0;NEAR 60 0 0;");
        Desk.due("7, 62 ints do not fit, 7", desk.base.outputs(), 18941);
        Desk.due("7", desk.base.out(18938), 7);
        Desk.due("7", desk.base.out(18939), 7);
        desk.say(windows + "NEAR 60 0 0;WINDOW -9 -9 -9 -9;NEAR 0 0 0;WINDOW 1 1 0 0;PACK;ADD 0 POINT(0 0);");
        Desk.due("those that ask nothing go on", desk.base.outputs(), 19005);
        int[] want = {7, 5, 5, 0, 5, 0};
        for (int i = 0; i < want.length; i++) {
            Desk.due("out " + (19000 + i), desk.base.out(19000 + i), want[i]);
        }
        desk.say(windows + "NEAR 59 0 0;WINDOW -9 -9 -9 -9;");
        Desk.due("one int left, two wanted", desk.base.outputs(), 19000);
        desk.say(windows + "NEAR 58 0 0;WINDOW -9 -9 -9 -9;");
        Desk.due("two left", desk.base.outputs(), 19000);
        Desk.due("its n", desk.base.out(18999), 0);
    }
}
