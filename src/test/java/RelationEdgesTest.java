import java.util.ArrayList;
import java.util.List;

/** The edges of INTERIOR, BOUNDARY and the RELATIONS in "2 SHAPES"; each case turned, mirrored, leaning and in great numbers. */
public final class RelationEdgesTest {
    /** How two shapes may lie, and by which of the five relations, from the first to the second, it is told. */
    private enum Lie {
        APART(0b00010), TOUCH(0b00101), MEET(0b00001), IN(0b01001), ROUND(0b10001), SAME(0b11001);

        private final int bits;

        Lie(int bits) {
            this.bits = bits;
        }

        Lie back() {
            return this == IN ? ROUND : this == ROUND ? IN : this;
        }
    }

    private static final String SQUARE = "POLYGON((0 0,10 0,10 10,0 10,0 0))";
    private static final String HOLED = "POLYGON((0 0,10 0,10 10,0 10,0 0),(3 3,7 3,7 7,3 7,3 3))";
    // Open to the right between y 4 and y 8.
    private static final String HOOK = "POLYGON((0 0,12 0,12 4,4 4,4 8,12 8,12 12,0 12,0 0))";

    public static void main(String[] args) {
        pointsAndPoints();
        pointsAndLines();
        endsThatArePassed();
        pointsAndPolygons();
        linesAndLines();
        linesOnOneLine();
        closedLines();
        linesAndPolygons();
        linesAndHoles();
        linesThroughBays();
        polygonsBesideAndAcross();
        polygonsInPolygons();
        polygonsAndHoles();
        polygonsThatAreTheSame();
        manyPlacesOnOneLine();
        manyCrossings();
        oneBaseForAll();
        hairsBreadths();
        Desk.finish();
    }

    private static final List<String[]> PAIRS = new ArrayList<>();

    private static void due(Lie lie, String a, String b) {
        PAIRS.add(new String[] {a, b, lie.name()});
        Figure first = Figure.of(a);
        Figure second = Figure.of(b);
        Desk.due("the oracle says of " + a + " and " + b, Oracle.relations(first, second), lie.bits);
        for (int turn = 0; turn < 2; turn++) {
            for (long[] map : Maps.ALL) {
                dueOne(lie, (turn == 0 ? first : first.turned(2)).mapped(map), (turn == 0 ? second : second.turned(1)).mapped(map));
            }
        }
    }

    private static void dueOne(Lie lie, Figure first, Figure second) {
        Desk desk = new Desk();
        desk.dueInts("ADD 1 " + first.text() + ";ADD 2 " + second.text() + ";", 0, 0);
        for (int rel = 0; rel < 5; rel++) {
            String pair = " of " + first.text() + " and " + second.text();
            Desk.due("relation " + rel + pair, desk.base.relate(rel, 1, 2), lie.bits >> rel & 1);
            Desk.due("relation back " + rel + pair, desk.base.relate(rel, 2, 1), lie.back().bits >> rel & 1);
        }
        Desk.due("itself", desk.base.relate(3, 1, 1), 1);
        Desk.due("touches itself", desk.base.relate(2, 2, 2), 0);
    }

    /** "a POINT: that point is its INTERIOR, it has no BOUNDARY." So a point never touches itself. */
    private static void pointsAndPoints() {
        due(Lie.SAME, "POINT(3 4)", "POINT(3 4)");
        due(Lie.APART, "POINT(3 4)", "POINT(3 5)");
        due(Lie.APART, "POINT(3 4)", "POINT(4 4)");
        due(Lie.APART, "POINT(3 4)", "POINT(4 3)");
    }

    /** "all points of the straight ways"; "BOUNDARY: the first and the last place, if they differ". */
    private static void pointsAndLines() {
        String line = "LINESTRING(0 0,4 0,4 4,8 8)";
        due(Lie.TOUCH, "POINT(0 0)", line);
        due(Lie.TOUCH, "POINT(8 8)", line);
        due(Lie.IN, "POINT(4 0)", line);
        due(Lie.IN, "POINT(4 4)", line);
        due(Lie.IN, "POINT(1 0)", line);
        due(Lie.IN, "POINT(5 5)", line);
        due(Lie.IN, "POINT(7 7)", line);
        due(Lie.APART, "POINT(9 9)", line);
        due(Lie.APART, "POINT(-1 0)", line);
        due(Lie.APART, "POINT(5 0)", line);
        due(Lie.APART, "POINT(4 -1)", line);
        due(Lie.APART, "POINT(3 3)", line);
        due(Lie.APART, "POINT(6 7)", line);
        due(Lie.APART, "POINT(1 1)", "LINESTRING(0 0,3 2)");
        due(Lie.TOUCH, "POINT(0 0)", "LINESTRING(0 0,3 2)");
        due(Lie.TOUCH, "POINT(3 2)", "LINESTRING(0 0,3 2)");
        due(Lie.IN, "POINT(3 2)", "LINESTRING(0 0,6 4)");
    }

    /** "a point that is the first or last place is of the BOUNDARY however often it is passed". */
    private static void endsThatArePassed() {
        // The first place is on the last way, the last place on the first way.
        String loop = "LINESTRING(2 0,6 0,6 4,2 4,2 -4)";
        due(Lie.TOUCH, "POINT(2 0)", loop);
        due(Lie.TOUCH, "POINT(2 -4)", loop);
        due(Lie.IN, "POINT(2 -1)", loop);
        due(Lie.TOUCH, "LINESTRING(1 -1,2 0,0 0)", loop);
        due(Lie.MEET, "LINESTRING(1 -1,3 -2,4 2,1 2)", loop);
        due(Lie.TOUCH, "LINESTRING(0 2,2 0,0 -2)", loop);
        String back = "LINESTRING(0 0,4 0,2 0)";
        due(Lie.TOUCH, "POINT(2 0)", back);
        due(Lie.TOUCH, "POINT(0 0)", back);
        due(Lie.IN, "POINT(4 0)", back);
        due(Lie.TOUCH, "LINESTRING(2 -2,2 2)", back);
        due(Lie.MEET, "LINESTRING(3 -2,3 2)", back);
        due(Lie.MEET, "LINESTRING(4 -2,4 2)", back);
        due(Lie.TOUCH, "LINESTRING(0 -2,0 2)", back);
        due(Lie.SAME, "LINESTRING(0 0,4 0)", back);
        String eight = "LINESTRING(0 0,4 4,4 0,0 4,0 0,-4 -4)";
        due(Lie.TOUCH, "POINT(0 0)", eight);
        due(Lie.IN, "POINT(2 2)", eight);
        due(Lie.TOUCH, "LINESTRING(-1 1,1 -1)", eight);
        due(Lie.MEET, "LINESTRING(1 2,3 2)", eight);
    }

    /** "INTERIOR: those inside the first and neither inside nor on others", "BOUNDARY: all points of the rings". */
    private static void pointsAndPolygons() {
        due(Lie.IN, "POINT(1 1)", HOLED);
        due(Lie.IN, "POINT(3 1)", HOLED);
        due(Lie.IN, "POINT(1 3)", HOLED);
        due(Lie.IN, "POINT(8 7)", HOLED);
        due(Lie.TOUCH, "POINT(0 0)", HOLED);
        due(Lie.TOUCH, "POINT(10 10)", HOLED);
        due(Lie.TOUCH, "POINT(0 3)", HOLED);
        due(Lie.TOUCH, "POINT(3 0)", HOLED);
        due(Lie.TOUCH, "POINT(10 7)", HOLED);
        due(Lie.TOUCH, "POINT(3 3)", HOLED);
        due(Lie.TOUCH, "POINT(5 3)", HOLED);
        due(Lie.APART, "POINT(5 5)", HOLED);
        due(Lie.APART, "POINT(4 6)", HOLED);
        due(Lie.APART, "POINT(11 3)", HOLED);
        due(Lie.APART, "POINT(-1 0)", HOLED);
        due(Lie.APART, "POINT(11 10)", HOLED);
        due(Lie.APART, "POINT(8 6)", HOOK);
        due(Lie.TOUCH, "POINT(4 6)", HOOK);
        due(Lie.TOUCH, "POINT(8 8)", HOOK);
        due(Lie.IN, "POINT(3 4)", HOOK);
        due(Lie.IN, "POINT(3 8)", HOOK);
        // level with many places
        String teeth = "POLYGON((0 0,2 4,4 0,6 4,8 0,10 4,10 6,8 4,6 6,4 4,2 6,0 4,0 0))";
        due(Lie.IN, "POINT(1 4)", teeth);
        due(Lie.IN, "POINT(3 4)", teeth);
        due(Lie.IN, "POINT(5 4)", teeth);
        due(Lie.TOUCH, "POINT(4 4)", teeth);
        due(Lie.APART, "POINT(12 4)", teeth);
        due(Lie.APART, "POINT(-2 4)", teeth);
        due(Lie.APART, "POINT(2 0)", teeth);
        due(Lie.TOUCH, "POINT(4 0)", teeth);
        String touching = "POLYGON((0 0,10 0,10 10,0 10,0 0),(0 5,4 3,4 7,0 5))";
        due(Lie.TOUCH, "POINT(0 5)", touching);
        due(Lie.IN, "POINT(1 3)", touching);
        due(Lie.APART, "POINT(3 5)", touching);
    }

    /** TOUCHES: "one is in both, none is of the INTERIOR of both"; of two lines that are not on one line. */
    private static void linesAndLines() {
        String line = "LINESTRING(0 0,8 0)";
        due(Lie.MEET, "LINESTRING(4 -4,4 4)", line);
        due(Lie.MEET, "LINESTRING(3 -1,4 2)", line);
        due(Lie.TOUCH, "LINESTRING(4 0,4 4)", line);
        due(Lie.TOUCH, "LINESTRING(0 0,0 4)", line);
        due(Lie.TOUCH, "LINESTRING(8 -4,8 4)", line);
        due(Lie.MEET, "LINESTRING(2 2,4 0,6 2)", line);
        due(Lie.TOUCH, "LINESTRING(6 2,8 0,10 2)", line);
        due(Lie.TOUCH, "LINESTRING(6 2,8 0)", line);
        due(Lie.APART, "LINESTRING(4 1,4 4)", line);
        due(Lie.APART, "LINESTRING(9 -4,9 4)", line);
        due(Lie.APART, "LINESTRING(0 1,8 1)", line);
        due(Lie.APART, "LINESTRING(2 1,12 1,12 -3,2 -3)", line);
        due(Lie.MEET, "LINESTRING(0 0,4 4,4 -4)", line);
        due(Lie.TOUCH, "LINESTRING(0 0,4 4,8 0)", line);
    }

    /** Lines that cover one another in part, wholly, by several ways, or meet only at ends. */
    private static void linesOnOneLine() {
        String line = "LINESTRING(0 0,8 0)";
        due(Lie.SAME, "LINESTRING(8 0,0 0)", line);
        due(Lie.SAME, "LINESTRING(0 0,3 0,8 0)", line);
        due(Lie.SAME, "LINESTRING(0 0,6 0,2 0,8 0)", line);
        due(Lie.IN, "LINESTRING(1 0,7 0)", line);
        due(Lie.IN, "LINESTRING(0 0,7 0)", line);
        due(Lie.IN, "LINESTRING(1 0,8 0)", line);
        due(Lie.IN, "LINESTRING(2 0,4 0,3 0)", line);
        due(Lie.ROUND, "LINESTRING(0 0,9 0)", line);
        due(Lie.ROUND, "LINESTRING(0 0,8 0,8 8)", line);
        due(Lie.ROUND, "LINESTRING(-1 0,4 0,9 0)", line);
        due(Lie.ROUND, "LINESTRING(8 0,5 0,5 5,5 0,0 0)", line);
        due(Lie.MEET, "LINESTRING(4 0,12 0)", line);
        due(Lie.MEET, "LINESTRING(0 0,3 0,3 1,5 1,5 0,8 0)", line);
        due(Lie.MEET, "LINESTRING(4 4,4 0,5 0,5 4)", line);
        due(Lie.TOUCH, "LINESTRING(8 0,12 0)", line);
        due(Lie.TOUCH, "LINESTRING(-4 0,0 0)", line);
        due(Lie.APART, "LINESTRING(9 0,12 0)", line);
        due(Lie.APART, "LINESTRING(-4 0,-1 0)", line);
    }

    /** If the first and the last place do not differ, there is no BOUNDARY. */
    private static void closedLines() {
        String ring = "LINESTRING(0 0,4 0,4 4,0 4,0 0)";
        due(Lie.IN, "POINT(0 0)", ring);
        due(Lie.IN, "POINT(4 0)", ring);
        due(Lie.IN, "POINT(2 0)", ring);
        due(Lie.APART, "POINT(2 2)", ring);
        due(Lie.MEET, "LINESTRING(-2 2,2 -2)", ring);
        due(Lie.TOUCH, "LINESTRING(0 0,-2 -2)", ring);
        due(Lie.TOUCH, "LINESTRING(0 0,4 4)", ring);
        due(Lie.APART, "LINESTRING(1 1,3 3)", ring);
        due(Lie.IN, "LINESTRING(0 4,0 0,4 0)", ring);
        due(Lie.IN, "LINESTRING(0 0,4 0,4 4,0 4)", ring);
        due(Lie.SAME, "LINESTRING(4 4,0 4,0 0,4 0,4 4)", ring);
        due(Lie.SAME, "LINESTRING(2 0,4 0,4 4,0 4,0 0,4 0)", ring);
        due(Lie.MEET, "LINESTRING(0 0,-4 0,-4 -4,0 -4,0 0)", ring);
        due(Lie.MEET, "LINESTRING(0 0,0 4,-4 4,-4 0,0 0)", ring);
        due(Lie.IN, "POINT(3 0)", "LINESTRING(0 0,4 0,0 0)");
        due(Lie.IN, "POINT(0 0)", "LINESTRING(0 0,4 0,0 0)");
        due(Lie.SAME, "LINESTRING(0 0,4 0)", "LINESTRING(0 0,4 0,0 0)");
    }

    /** Lines inside, on the boundary, across and outside. */
    private static void linesAndPolygons() {
        due(Lie.IN, "LINESTRING(2 2,8 8)", SQUARE);
        due(Lie.IN, "LINESTRING(0 0,10 10)", SQUARE);
        due(Lie.IN, "LINESTRING(0 5,10 5)", SQUARE);
        due(Lie.IN, "LINESTRING(0 5,0 8,4 8)", SQUARE);
        due(Lie.IN, "LINESTRING(4 4,0 0)", SQUARE);
        due(Lie.IN, "LINESTRING(2 2,5 0,8 2)", SQUARE);
        due(Lie.TOUCH, "LINESTRING(0 0,10 0)", SQUARE);
        due(Lie.TOUCH, "LINESTRING(2 0,8 0)", SQUARE);
        due(Lie.TOUCH, "LINESTRING(-2 0,12 0)", SQUARE);
        due(Lie.TOUCH, "LINESTRING(0 0,10 0,10 10,0 10,0 0)", SQUARE);
        due(Lie.TOUCH, "LINESTRING(-2 5,0 5)", SQUARE);
        due(Lie.TOUCH, "LINESTRING(-5 5,5 -5)", SQUARE);
        due(Lie.TOUCH, "LINESTRING(-2 2,0 5,-2 8)", SQUARE);
        due(Lie.TOUCH, "LINESTRING(0 -5,0 0)", SQUARE);
        due(Lie.MEET, "LINESTRING(-2 5,5 5)", SQUARE);
        due(Lie.MEET, "LINESTRING(-2 5,12 5)", SQUARE);
        due(Lie.MEET, "LINESTRING(-2 -2,12 12)", SQUARE);
        due(Lie.MEET, "LINESTRING(5 5,5 10,5 11)", SQUARE);
        // Only its first unit, or its last one, is outside.
        due(Lie.MEET, "LINESTRING(-1 0,4 0,4 4)", SQUARE);
        due(Lie.MEET, "LINESTRING(4 4,4 0,11 0)", SQUARE);
        due(Lie.TOUCH, "LINESTRING(-1 0,4 0)", SQUARE);
        due(Lie.IN, "LINESTRING(0 0,4 0,4 4)", SQUARE);
        due(Lie.MEET, "LINESTRING(-1 2,2 -1)", SQUARE);
        due(Lie.APART, "LINESTRING(-2 11,12 11)", SQUARE);
        due(Lie.APART, "LINESTRING(-2 1,1 -2)", SQUARE);
        due(Lie.APART, "LINESTRING(-1 -1,11 -1,11 11,-1 11,-1 -1)", SQUARE);
    }

    private static void linesAndHoles() {
        due(Lie.APART, "LINESTRING(4 4,6 6)", HOLED);
        due(Lie.TOUCH, "LINESTRING(3 3,6 6)", HOLED);
        due(Lie.TOUCH, "LINESTRING(3 3,7 7)", HOLED);
        due(Lie.TOUCH, "LINESTRING(4 4,5 3,6 4)", HOLED);
        due(Lie.TOUCH, "LINESTRING(3 3,7 3,7 7)", HOLED);
        due(Lie.MEET, "LINESTRING(1 1,9 9)", HOLED);
        due(Lie.MEET, "LINESTRING(2 2,4 4)", HOLED);
        due(Lie.IN, "LINESTRING(1 1,3 3)", HOLED);
        due(Lie.IN, "LINESTRING(1 3,9 3)", HOLED);
        due(Lie.IN, "LINESTRING(0 0,3 3,3 7,0 10)", HOLED);
        due(Lie.IN, "LINESTRING(3 2,2 3,2 7)", HOLED);
        due(Lie.IN, "LINESTRING(2 2,8 2,8 8,2 8,2 2)", HOLED);
        // through the point at which the hole touches the first ring
        String touching = "POLYGON((0 0,10 0,10 10,0 10,0 0),(0 5,4 3,4 7,0 5))";
        due(Lie.TOUCH, "LINESTRING(-2 5,4 5)", touching);
        due(Lie.MEET, "LINESTRING(-2 5,6 5)", touching);
        due(Lie.TOUCH, "LINESTRING(-2 4,0 5,-2 6)", touching);
        due(Lie.IN, "LINESTRING(1 3,0 5,1 7)", touching);
        due(Lie.TOUCH, "LINESTRING(0 2,0 8)", touching);
    }

    /** Lines from place to place of a polygon whose ways between are outside, and such that run along it. */
    private static void linesThroughBays() {
        due(Lie.TOUCH, "LINESTRING(12 4,12 8)", HOOK);
        due(Lie.TOUCH, "LINESTRING(8 4,8 8)", HOOK);
        due(Lie.TOUCH, "LINESTRING(4 4,8 8)", HOOK);
        due(Lie.TOUCH, "LINESTRING(4 4,4 8)", HOOK);
        due(Lie.APART, "LINESTRING(6 5,14 6)", HOOK);
        due(Lie.MEET, "LINESTRING(8 2,8 10)", HOOK);
        due(Lie.MEET, "LINESTRING(11 0,11 12)", HOOK);
        due(Lie.TOUCH, "LINESTRING(12 0,12 12)", HOOK);
        due(Lie.IN, "LINESTRING(0 4,12 4)", HOOK);
        due(Lie.IN, "LINESTRING(4 0,4 12)", HOOK);
        due(Lie.MEET, "LINESTRING(0 4,14 4)", HOOK);
        due(Lie.MEET, "LINESTRING(2 2,6 6)", HOOK);
    }

    private static void polygonsBesideAndAcross() {
        due(Lie.TOUCH, "POLYGON((10 0,20 0,20 10,10 10,10 0))", SQUARE);
        due(Lie.TOUCH, "POLYGON((10 2,20 2,20 8,10 8,10 2))", SQUARE);
        due(Lie.TOUCH, "POLYGON((10 5,20 5,20 15,10 15,10 5))", SQUARE);
        due(Lie.TOUCH, "POLYGON((10 10,20 10,20 20,10 20,10 10))", SQUARE);
        due(Lie.TOUCH, "POLYGON((10 5,20 0,20 10,10 5))", SQUARE);
        due(Lie.TOUCH, "POLYGON((15 5,5 15,15 15,15 5))", SQUARE);
        due(Lie.APART, "POLYGON((11 0,20 0,20 10,11 10,11 0))", SQUARE);
        due(Lie.APART, "POLYGON((16 5,5 16,16 16,16 5))", SQUARE);
        due(Lie.MEET, "POLYGON((9 9,20 9,20 20,9 20,9 9))", SQUARE);
        due(Lie.MEET, "POLYGON((-2 4,12 4,12 6,-2 6,-2 4))", SQUARE);
        due(Lie.MEET, "POLYGON((14 5,5 14,14 14,14 5))", SQUARE);
        due(Lie.MEET, "POLYGON((5 -4,15 5,5 14,-5 5,5 -4))", SQUARE);
        due(Lie.MEET, "POLYGON((0 -5,10 0,10 10,0 5,0 -5))", SQUARE);
        due(Lie.APART, "POLYGON((5 5,14 5,14 7,5 7,5 5))", HOOK);
        due(Lie.TOUCH, "POLYGON((4 5,14 5,14 7,4 7,4 5))", HOOK);
        due(Lie.TOUCH, "POLYGON((4 4,14 4,14 8,4 8,4 4))", HOOK);
        due(Lie.MEET, "POLYGON((3 5,14 5,14 7,3 7,3 5))", HOOK);
        due(Lie.TOUCH, "POLYGON((4 6,14 5,14 7,4 6))", HOOK);
    }

    private static void polygonsInPolygons() {
        due(Lie.IN, "POLYGON((2 2,8 2,8 8,2 8,2 2))", SQUARE);
        due(Lie.IN, "POLYGON((0 2,8 2,8 8,0 8,0 2))", SQUARE);
        due(Lie.IN, "POLYGON((0 0,10 0,10 5,0 5,0 0))", SQUARE);
        due(Lie.IN, "POLYGON((0 0,10 0,10 10,0 0))", SQUARE);
        due(Lie.IN, "POLYGON((0 5,5 0,10 5,5 10,0 5))", SQUARE);
        due(Lie.IN, "POLYGON((0 5,4 4,4 6,0 5))", SQUARE);
        due(Lie.IN, "POLYGON((0 0,12 0,12 4,4 4,4 8,0 8,0 0))", HOOK);
        due(Lie.MEET, "POLYGON((0 0,12 0,12 11,0 12,0 0))", HOOK);
        due(Lie.IN, HOOK, "POLYGON((0 0,12 0,12 12,0 12,0 0))");
        due(Lie.MEET, "POLYGON((2 2,11 2,11 10,2 10,2 2))", HOOK);
        due(Lie.MEET, "POLYGON((12 0,12 12,0 6,12 0))", HOOK);
        due(Lie.MEET, "POLYGON((8 4,8 8,2 6,8 4))", HOOK);
        due(Lie.IN, "POLYGON((4 4,4 8,2 6,4 4))", HOOK);
    }

    private static void polygonsAndHoles() {
        String filling = "POLYGON((3 3,7 3,7 7,3 7,3 3))";
        due(Lie.TOUCH, filling, HOLED);
        due(Lie.IN, HOLED, SQUARE);
        due(Lie.IN, filling, SQUARE);
        due(Lie.APART, "POLYGON((4 4,6 4,6 6,4 6,4 4))", HOLED);
        due(Lie.TOUCH, "POLYGON((3 3,6 4,6 6,4 6,3 3))", HOLED);
        due(Lie.TOUCH, "POLYGON((3 4,6 4,6 6,3 6,3 4))", HOLED);
        due(Lie.TOUCH, "POLYGON((3 5,5 3,7 5,5 7,3 5))", HOLED);
        due(Lie.MEET, "POLYGON((2 3,7 3,7 7,2 7,2 3))", HOLED);
        due(Lie.MEET, "POLYGON((2 2,8 2,8 8,2 8,2 2))", HOLED);
        due(Lie.MEET, "POLYGON((4 4,9 4,9 6,4 6,4 4))", HOLED);
        due(Lie.IN, "POLYGON((7 3,9 3,9 7,7 7,7 3))", HOLED);
        due(Lie.IN, "POLYGON((0 0,3 0,3 10,0 10,0 0))", HOLED);
        // holes within holes, alike, touching and apart
        due(Lie.IN, "POLYGON((0 0,10 0,10 10,0 10,0 0),(2 2,8 2,8 8,2 8,2 2))", HOLED);
        due(Lie.ROUND, "POLYGON((0 0,10 0,10 10,0 10,0 0),(4 4,6 4,6 6,4 6,4 4))", HOLED);
        due(Lie.ROUND, "POLYGON((0 0,10 0,10 10,0 10,0 0),(3 3,7 3,7 7,3 3))", HOLED);
        due(Lie.MEET, "POLYGON((0 0,10 0,10 10,0 10,0 0),(1 1,2 1,2 2,1 1))", HOLED);
        due(Lie.MEET, "POLYGON((0 0,10 0,10 10,0 10,0 0),(7 7,9 7,9 9,7 7))", HOLED);
        due(Lie.IN, "POLYGON((1 1,9 1,9 9,1 9,1 1),(3 3,7 3,7 7,3 7,3 3))", HOLED);
        due(Lie.IN, "POLYGON((0 0,10 0,10 10,0 10,0 0),(3 3,7 3,7 7,3 7,3 3),(8 8,9 8,9 9,8 8))", HOLED);
        due(Lie.TOUCH, "POLYGON((3 3,7 3,7 7,3 7,3 3),(4 4,6 4,6 6,4 6,4 4))", HOLED);
        due(Lie.APART, "POLYGON((12 0,20 0,20 8,12 8,12 0),(14 2,16 2,16 4,14 2))", HOLED);
        // around all of it: the other lies in the hole
        due(Lie.APART, "POLYGON((-4 -4,14 -4,14 14,-4 14,-4 -4),(-1 -1,11 -1,11 11,-1 11,-1 -1))", HOLED);
        due(Lie.TOUCH, "POLYGON((-4 -4,14 -4,14 14,-4 14,-4 -4),(0 0,10 0,10 10,0 10,0 0))", HOLED);
        due(Lie.ROUND, "POLYGON((-4 -4,14 -4,14 14,-4 14,-4 -4),(4 4,6 4,6 6,4 6,4 4))", HOLED);
    }

    /** The same points by other texts: begun elsewhere, the other way round, with places straight on, holes in another order. */
    private static void polygonsThatAreTheSame() {
        due(Lie.SAME, "POLYGON((10 10,0 10,0 0,10 0,10 10))", SQUARE);
        due(Lie.SAME, "POLYGON((0 0,0 10,10 10,10 0,0 0))", SQUARE);
        due(Lie.SAME, "POLYGON((5 0,10 0,10 10,4 10,0 10,0 3,0 0,5 0))", SQUARE);
        due(Lie.SAME, "POLYGON((0 0,0 10,10 10,10 0,0 0),(7 7,7 5,7 3,3 3,3 7,7 7))", HOLED);
        due(Lie.SAME, "POLYGON((0 0,9 0,9 9,0 9,0 0),(1 1,2 1,2 2,1 1),(6 5,7 5,7 6,6 5))",
            "POLYGON((0 0,9 0,9 9,0 9,0 0),(6 5,7 5,7 6,6 5),(1 1,2 1,2 2,1 1))");
        due(Lie.MEET, "POLYGON((0 0,9 0,9 9,0 9,0 0),(1 1,2 1,2 2,1 1))", "POLYGON((0 0,9 0,9 9,0 9,0 0),(6 5,7 5,7 6,6 5))");
    }

    /** A side of 38 places, the most there may be on one line: all of them cut a way that runs along it. */
    private static void manyPlacesOnOneLine() {
        StringBuilder row = new StringBuilder();
        for (int i = 0; i < 38; i++) {
            row.append(i - 15).append(" 0,");
        }
        String many = "POLYGON((" + row + "0 9,-15 0))";
        due(Lie.SAME, "POLYGON((-15 0,22 0,0 9,-15 0))", many);
        due(Lie.TOUCH, "LINESTRING(-16 0,23 0)", many);
        due(Lie.TOUCH, "LINESTRING(-15 0,22 0)", many);
        due(Lie.MEET, "LINESTRING(-16 0,22 0,0 5)", many);
        due(Lie.IN, "LINESTRING(-15 0,22 0,0 5)", many);
        due(Lie.MEET, "LINESTRING(0 5,-15 0,23 0)", many);
        due(Lie.TOUCH, "POLYGON((-16 0,23 0,0 -9,-16 0))", many);
        due(Lie.MEET, "POLYGON((-16 0,23 0,0 4,-16 0))", many);
        due(Lie.IN, "POLYGON((-14 0,21 0,0 4,-14 0))", many);
        due(Lie.SAME, "LINESTRING(-15 0,22 0)", "LINESTRING(" + row + "21 0)");
    }

    /** A comb of 40 places, crossed by ways that meet all of its teeth. */
    private static void manyCrossings() {
        StringBuilder row = new StringBuilder();
        for (int i = 0; i < 37; i++) {
            row.append(i - 18).append(i % 2 == 0 ? " 0," : " 8,");
        }
        String comb = "POLYGON((" + row + "18 -4,-18 -4,-18 0))";
        due(Lie.MEET, "LINESTRING(-19 4,19 4)", comb);
        due(Lie.TOUCH, "LINESTRING(-19 8,19 8)", comb);
        due(Lie.MEET, "LINESTRING(-19 7,19 7)", comb);
        due(Lie.IN, "LINESTRING(-18 0,18 0)", comb);
        due(Lie.MEET, "LINESTRING(-19 0,19 0)", comb);
        due(Lie.TOUCH, "POLYGON((-18 8,18 8,0 20,-18 8))", comb);
        due(Lie.MEET, "POLYGON((-18 7,18 7,0 20,-18 7))", comb);
        due(Lie.IN, "POLYGON((-18 0,18 0,0 -4,-18 0))", comb);
        due(Lie.IN, comb, "POLYGON((-18 -4,18 -4,18 8,-18 8,-18 -4))");
    }

    /** What is asked ahead leaves no trace: all the pairs, of one base, one behind the other and back. */
    private static void oneBaseForAll() {
        for (int from = 0; from < PAIRS.size(); from += 30) {
            Desk desk = new Desk();
            int stop = Math.min(from + 30, PAIRS.size());
            StringBuilder text = new StringBuilder();
            for (int i = from; i < stop; i++) {
                text.append("ADD ").append(2 * i + 1).append(PAIRS.get(i)[0]).append(";ADD ").append(2 * i + 2).append(PAIRS.get(i)[1]).append(";");
            }
            desk.sayLong(text.toString());
            for (int n = 0; n < 2 * (stop - from); n++) {
                int i = n < stop - from ? from + n : stop - 1 - (n - (stop - from));
                int bits = Lie.valueOf(PAIRS.get(i)[2]).bits;
                for (int rel = 0; rel < 5; rel++) {
                    Desk.due("relation " + rel + " of " + PAIRS.get(i)[0] + " and " + PAIRS.get(i)[1],
                        desk.base.relate(rel, 2 * i + 1, 2 * i + 2), bits >> rel & 1);
                }
            }
        }
    }

    private static void dueBits(String a, String b, Lie lie) {
        Desk.due("the oracle says of " + a + " and " + b, Oracle.relations(Figure.of(a), Figure.of(b)), lie.bits);
        dueOne(lie, Figure.of(a), Figure.of(b));
    }

    /** "all by exact numbers": what is less than a billionth of a unit away is not on it. */
    private static void hairsBreadths() {
        String line = "LINESTRING(-1073741823 -1073741823,1073741823 1073741822)";
        dueBits("POINT(0 0)", line, Lie.APART);
        dueBits("POINT(0 -1)", line, Lie.APART);
        dueBits("POINT(0 0)", "LINESTRING(-1073741823 -1073741822,1073741823 1073741822)", Lie.IN);
        dueBits("LINESTRING(0 0,0 5)", line, Lie.APART);
        dueBits("LINESTRING(0 -1,0 5)", line, Lie.MEET);
        dueBits("LINESTRING(0 -1,0 -5)", line, Lie.APART);
        String wedge = "POLYGON((-1073741823 -1073741823,1073741823 -1073741823,1073741823 1073741822,-1073741823 -1073741823))";
        dueBits("POINT(0 -1)", wedge, Lie.IN);
        dueBits("POINT(0 0)", wedge, Lie.APART);
        dueBits("POLYGON((0 0,1 1,0 1,0 0))", wedge, Lie.APART);
        dueBits("POLYGON((0 -1,1 1,0 1,0 -1))", wedge, Lie.MEET);
        dueBits("POLYGON((0 -1,1 -1,1 0,0 -1))", wedge, Lie.IN);
        dueBits("LINESTRING(0 -1,1073741823 1073741822)", wedge, Lie.IN);
        dueBits("LINESTRING(0 0,1073741823 1073741822)", wedge, Lie.TOUCH);
        // Both cross the third one at parts of it that differ by less than 10 to the -17th.
        dueBits("POLYGON((0 0,1073741823 1073741821,1073741822 1073741823,0 0))",
            "POLYGON((0 0,1073741823 1073741821,1073741822 1073741820,0 0))", Lie.TOUCH);
        dueBits("POLYGON((0 0,1073741822 1073741821,1073741822 1073741823,0 0))",
            "POLYGON((0 0,1073741823 1073741822,1073741822 1073741820,0 0))", Lie.MEET);
        dueBits("POLYGON((-1073741823 -1073741823,1073741823 -1073741823,1073741823 1073741823,-1073741823 1073741823,-1073741823 -1073741823))",
            wedge, Lie.ROUND);
    }
}
