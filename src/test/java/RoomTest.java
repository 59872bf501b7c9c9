import java.lang.management.ManagementFactory;

/** All calls live in one small room: a base makes little, and what it once made it uses again. */
public final class RoomTest {
    private static final long ROOM = 1_000_000;

    public static void main(String[] args) {
        fillAndAbort();
        nothingIsMadeAnew("FILL 1 100 SQUARES 0 0 900 5;FILL 101 100 LINES 0 0 900 7;SAVE;", "MOVE 7 1 1;MOVE 7 -1 -1;MOVE 199 0 0;");
        nothingIsMadeAnew("FILL 1 100 SQUARES 0 0 900 5;FILL 101 100 LINES 0 0 900 7;SAVE;", "DROP 7;ADD 7 POINT(1 1);BEGIN;DROP 8;ADD 8 POINT(1 1);COMMIT;");
        nothingIsMadeAnew("FILL 1 100 POINTS 0 0 900 5;", "NEAR 100 0 0;JOIN TOUCHES 1 64 1 64;FIND WITHIN POLYGON((0 0,900 0,0 900,0 0));WINDOW 0 0 9 9;ADD 0 POINT(1 1);?");
        nothingIsMadeAnew("", "BEGIN;FILL 1 100 SQUARES 0 0 900 5;COMMIT;BEGIN;" + drops(100) + "FILL 1 100 LINES 0 0 900 5;COMMIT;" + drops(100));
        nothingIsMadeAnew("FILL 1 100 SQUARES 0 0 900 5;FILL 101 100 LINES 0 0 900 7;SAVE;",
            "BEGIN;" + drops(200) + "FILL 1 100 LINES 0 0 900 7;FILL 101 100 POINTS 0 0 900 8;ABORT;");
        fallsMakeNothing();
        Desk.finish();
    }

    private static long made() {
        com.sun.management.ThreadMXBean threads = (com.sun.management.ThreadMXBean) ManagementFactory.getThreadMXBean();
        return threads.getThreadAllocatedBytes(Thread.currentThread().getId());
    }

    private static String drops(int count) {
        StringBuilder text = new StringBuilder();
        for (int id = 1; id <= count; id++) {
            text.append("DROP ").append(id).append(";");
        }
        return text.toString();
    }

    private static long[] rowsOf(String text) {
        long[] rows = new long[(text.length() + 39) / 40 * 5];
        for (int i = 0; i < rows.length * 8; i++) {
            rows[i / 8] = rows[i / 8] << 8 | (i < text.length() ? text.charAt(i) : ' ');
        }
        return rows;
    }

    private static int feedAndRun(LandBase base, long[] rows) {
        for (int i = 0; i + 4 < rows.length; i += 5) {
            base.feed(rows[i], rows[i + 1], rows[i + 2], rows[i + 3], rows[i + 4]);
        }
        return base.run();
    }

    /** A base of 400 calls that fill and abort again and again, counted from its making on. */
    private static void fillAndAbort() {
        StringBuilder text = new StringBuilder();
        while (text.length() < 3900) {
            text.append("BEGIN;FILL 1 100 SQUARES 0 0 900 ").append(text.length()).append(";MOVE 1 1 1;JOIN TOUCHES 1 64 1 64;ABORT;");
        }
        long[] rows = rowsOf(text.toString());
        long before = made();
        LandBase base = new LandBase();
        int done = 0;
        for (int runs = 0; runs < 4; runs++) {
            done += feedAndRun(base, rows);
        }
        long made = made() - before;
        Desk.due("statements done", done > 500, true);
        Desk.due("wrong", base.wrong(), -1);
        Desk.due("bytes of all that was made, " + made + ", above " + ROOM, made > ROOM, false);
    }

    /** Behind the first rounds of a text, no round makes an object. */
    private static void nothingIsMadeAnew(String first, String text) {
        LandBase base = new LandBase();
        feedAndRun(base, rowsOf(first));
        long[] rows = rowsOf(text);
        int done = feedAndRun(base, rows);
        feedAndRun(base, rows);
        long before = made();
        for (int round = 0; round < 30; round++) {
            feedAndRun(base, rows);
        }
        long made = made() - before;
        Desk.due("statements of " + text, done > 2, true);
        Desk.due("bytes made by " + text + ", " + made + ", above 2000", made > 2000, false);
    }

    private static void fallsMakeNothing() {
        LandBase base = new LandBase();
        feedAndRun(base, rowsOf("FILL 1 100 SQUARES 0 0 900 5;FILL 101 100 LINES 0 0 900 7;SAVE;"));
        long[] rows = rowsOf("BEGIN;" + drops(100) + "FILL 1 100 POINTS 0 0 900 8;MOVE 101 1 1;COMMIT;");
        long before = 0;
        for (int round = 0; round < 30; round++) {
            before = round == 3 ? made() : before;
            base.crash(0, 2, 100);
            feedAndRun(base, rows);
            Desk.due("recover", base.recover(), 200);
        }
        long made = made() - before;
        Desk.due("bytes made by falls, " + made + ", above 2000", made > 2000, false);
    }
}
