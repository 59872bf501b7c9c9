import java.util.ArrayList;
import java.util.List;

/** A shape as tests hold it: kind 0, 1 or 2, and rows of places. */
final class Figure {
    final int kind;
    final List<long[][]> rows = new ArrayList<>();

    Figure(int kind, long[]... rowsOfNumbers) {
        this.kind = kind;
        for (long[] numbers : rowsOfNumbers) {
            long[][] row = new long[numbers.length / 2][];
            for (int i = 0; i < row.length; i++) {
                row[i] = new long[] {numbers[2 * i], numbers[2 * i + 1]};
            }
            rows.add(row);
        }
    }

    /** Reads a text such as POLYGON((0 0,4 0,4 4,0 0)). */
    static Figure of(String text) {
        int kind = text.startsWith("POINT") ? 0 : text.startsWith("LINE") ? 1 : 2;
        Figure f = new Figure(kind);
        for (String ring : text.substring(text.indexOf('(')).replace("(", "").split("\\)")) {
            String[] places = ring.replaceFirst("^,", "").split(",");
            long[][] row = new long[places.length][];
            for (int i = 0; i < row.length; i++) {
                String[] numbers = places[i].trim().split(" +");
                row[i] = new long[] {Long.parseLong(numbers[0]), Long.parseLong(numbers[1])};
            }
            f.rows.add(row);
        }
        return f;
    }

    /** The same places in the opposite order; if it is a closed row, begun elsewhere too. */
    Figure turned(int by) {
        Figure other = new Figure(kind);
        for (long[][] row : rows) {
            int n = row.length;
            boolean isClosed = n > 1 && row[0][0] == row[n - 1][0] && row[0][1] == row[n - 1][1];
            long[][] back = new long[n][];
            for (int i = 0; i < n; i++) {
                back[i] = isClosed && kind == 2 ? row[(2 * n - 2 - i + by % n) % (n - 1)] : row[n - 1 - i];
            }
            other.rows.add(back);
        }
        return other;
    }

    /** The image under x' = m0 x + m1 y + m2, y' = m3 x + m4 y + m5. */
    Figure mapped(long[] m) {
        Figure image = new Figure(kind);
        for (long[][] row : rows) {
            long[][] newRow = new long[row.length][];
            for (int i = 0; i < row.length; i++) {
                long x = row[i][0];
                long y = row[i][1];
                newRow[i] = new long[] {m[0] * x + m[1] * y + m[2], m[3] * x + m[4] * y + m[5]};
            }
            image.rows.add(newRow);
        }
        return image;
    }

    int size() {
        int n = 0;
        for (long[][] row : rows) {
            n += row.length;
        }
        return n;
    }

    String text() {
        StringBuilder text = new StringBuilder();
        text.append(kind == 0 ? "POINT" : kind == 1 ? "LINESTRING" : "POLYGON(");
        for (int r = 0; r < rows.size(); r++) {
            text.append(r > 0 ? ",(" : "(");
            for (int i = 0; i < rows.get(r).length; i++) {
                text.append(i > 0 ? "," : "").append(rows.get(r)[i][0]).append(' ').append(rows.get(r)[i][1]);
            }
            text.append(')');
        }
        return text.append(kind == 2 ? ")" : "").toString();
    }
}
