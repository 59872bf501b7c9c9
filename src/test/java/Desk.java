import java.nio.charset.StandardCharsets;
import java.util.Arrays;

/** A base under test, with what tests do to it again and again, and a count of the wrong answers. */
final class Desk {
    static int wrongs = 0;

    final LandBase base = new LandBase();

    static void due(String what, long got, long want) {
        if (got != want) {
            wrongs++;
            if (wrongs <= 50) {
                System.out.println(what + " answered " + got + ", due is " + want);
            }
        }
    }

    static void due(String what, boolean got, boolean want) {
        due(what, got ? 1 : 0, want ? 1 : 0);
    }

    static void finish() {
        if (wrongs != 0) {
            System.out.println(wrongs + " answers are not as due");
            System.exit(1);
        }
    }

    /** Feeds the bytes of a text; the tape must have been at a length that leaves room for whole rows of 40. */
    int type(String text) {
        byte[] bytes = text.getBytes(StandardCharsets.ISO_8859_1);
        int length = -2;
        for (int from = 0; from < bytes.length; from += 40) {
            int n = Math.min(40, bytes.length - from);
            byte[] row = Arrays.copyOf(Arrays.copyOfRange(bytes, from, from + n), 40);
            long[] parts = new long[5];
            for (int i = 0; i < 40; i++) {
                parts[i / 8] = parts[i / 8] << 8 | row[i] & 255;
            }
            length = base.feed(parts[0], parts[1], parts[2], parts[3], parts[4]);
            if (n < 40 && length >= 0) {
                length = base.end(n);
            }
        }
        return length;
    }

    int say(String text) {
        type(text);
        return base.run();
    }

    int[] ints() {
        int[] all = new int[base.outputs()];
        for (int i = 0; i < all.length; i++) {
            all[i] = base.out(i);
        }
        return all;
    }

    /** Says a text, all of which must be right, and compares what it puts out. */
    void dueInts(String text, int... want) {
        say(text);
        due("wrong() of " + text, base.wrong(), -1);
        dueOut(text, want);
    }

    void dueOut(String text, int... want) {
        int[] got = ints();
        if (!Arrays.equals(got, want)) {
            wrongs++;
            System.out.println(text + " put out " + Arrays.toString(got) + ", due is " + Arrays.toString(want));
        }
    }

    /** Says a text that is wrong somewhere. */
    void dueWrong(String text, int done, int position) {
        due("run() of " + text, say(text), done);
        due("wrong() of " + text, base.wrong(), position);
    }

    /** All that is to be seen of what the base keeps. */
    String state() {
        StringBuilder text = new StringBuilder();
        text.append(base.isDown()).append(base.isOpen()).append(' ').append(base.used()).append(' ').append(base.saves());
        int live = base.live();
        for (int i = 0; i < live; i++) {
            int id = base.idAt(i);
            text.append("; ").append(id).append(' ').append(base.kindOf(id)).append(' ').append(base.rings(id));
            int places = base.places(id);
            for (int j = 0; j < places; j++) {
                text.append(' ').append(base.at(id, j, 0)).append(',').append(base.at(id, j, 1));
            }
        }
        return text.toString();
    }

    /** Says a statement that must be refused, and looks whether it changed anything. */
    void dueRefused(String statement, int code) {
        String before = state();
        dueInts(statement, code);
        String after = state();
        if (!after.equals(before)) {
            wrongs++;
            System.out.println(statement + " was refused, but " + before + " became " + after);
        }
    }

    /** Statements of a transaction that count just so many bytes; 1 and 9 must be live, 8 not. */
    static String bytes(int count) {
        StringBuilder text = new StringBuilder();
        int left = count;
        if (left % 8 == 4) {
            text.append("ADD 8 POINT(0 0);");
            left -= 28;
        }
        if (left % 16 == 8) {
            text.append("DROP 9;");
            left -= 8;
        }
        for (int i = 0; i < left / 16; i++) {
            text.append("MOVE1 0 0;");
        }
        return text.toString();
    }

    /** Says a text of statements, however long, in as many runs as it takes; all must be done. */
    void sayLong(String text) {
        int from = 0;
        while (from < text.length()) {
            int stop = text.length() - from <= 3900 ? text.length() : text.lastIndexOf(';', from + 3900) + 1;
            say(text.substring(from, stop));
            due("wrong() of a long text", base.wrong(), -1);
            for (int i = 0; i < base.outputs(); i += 97) {
                due("a statement of a long text", base.out(i), 0);
            }
            from = stop;
        }
    }
}
