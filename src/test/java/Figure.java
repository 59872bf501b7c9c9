import java.util.ArrayList;
import java.util.List;

/** A shape as tests hold it: kind 0, 1 or 2, and rows of places. */
final class Figure {
    final int kind;
    final List<long[][]> rows = new ArrayList<>();

    Figure(int kind, long[]... rowsOfNumbers) {
        this.kind = kind;
        for (long[] numbers : rowsOfNumbers) {
            long[][] row = new long[numbers.length / 2][];
            for (int i = 0; i < row.length; i++) {
                row[i] = new long[] {numbers[2 * i], numbers[2 * i + 1]};
            }
            rows.add(row);
        }
    }

    /** The image under x' = m0 x + m1 y + m2, y' = m3 x + m4 y + m5. */
    Figure mapped(long[] m) {
        Figure image = new Figure(kind);
        for (long[][] row : rows) {
            long[][] newRow = new long[row.length][];
            for (int i = 0; i < row.length; i++) {
                long x = row[i][0];
                long y = row[i][1];
                newRow[i] = new long[] {m[0] * x + m[1] * y + m[2], m[3] * x + m[4] * y + m[5]};
            }
            image.rows.add(newRow);
        }
        return image;
    }

    int size() {
        int n = 0;
        for (long[][] row : rows) {
            n += row.length;
        }
        return n;
    }

    String text() {
        StringBuilder text = new StringBuilder();
        text.append(kind == 0 ? "POINT" : kind == 1 ? "LINESTRING" : "POLYGON(");
        for (int r = 0; r < rows.size(); r++) {
            text.append(r > 0 ? ",(" : "(");
            for (int i = 0; i < rows.get(r).length; i++) {
                text.append(i > 0 ? "," : "").append(rows.get(r)[i][0]).append(' ').append(rows.get(r)[i][1]);
            }
            text.append(')');
        }
        return text.append(kind == 2 ? ")" : "").toString();
    }
}
