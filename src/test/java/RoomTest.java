import java.lang.management.ManagementFactory;

/** A base of 512 calls that fill and drop again and again makes few objects: all of them live in one small room. */
public final class RoomTest {
    private static final long ROOM = 1_000_000;

    public static void main(String[] args) {
        com.sun.management.ThreadMXBean threads = (com.sun.management.ThreadMXBean) ManagementFactory.getThreadMXBean();
        long id = Thread.currentThread().getId();
        StringBuilder text = new StringBuilder();
        while (text.length() < 3900) {
            text.append("BEGIN;FILL 1 100 SQUARES 0 0 900 ").append(text.length()).append(";MOVE 1 1 1;JOIN TOUCHES 1 64 1 64;ABORT;");
        }
        long[] rows = rowsOf(text.toString());
        long before = threads.getThreadAllocatedBytes(id);
        LandBase base = new LandBase();
        int calls = 0;
        int done = 0;
        while (calls < 400) {
            for (int i = 0; i + 4 < rows.length; i += 5) {
                base.feed(rows[i], rows[i + 1], rows[i + 2], rows[i + 3], rows[i + 4]);
                calls++;
            }
            done += base.run();
            calls++;
        }
        long made = threads.getThreadAllocatedBytes(id) - before;
        Desk.due("statements done", done > 500, true);
        Desk.due("wrong", base.wrong(), -1);
        Desk.due("bytes of all that was made, " + made + ", above " + ROOM, made > ROOM, false);
        Desk.finish();
    }

    private static long[] rowsOf(String text) {
        long[] rows = new long[(text.length() + 39) / 40 * 5];
        for (int i = 0; i < rows.length * 8; i++) {
            rows[i / 8] = rows[i / 8] << 8 | (i < text.length() ? text.charAt(i) : ' ');
        }
        return rows;
    }
}
