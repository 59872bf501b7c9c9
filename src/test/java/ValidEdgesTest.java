import java.util.ArrayList;
import java.util.List;

/** The edges of what "2 SHAPES" calls VALID, sentence by sentence; each case turned, mirrored, leaning and in great numbers. */
public final class ValidEdgesTest {
    private static final String SHELL = "(0 0,10 0,10 10,0 10,0 0)";
    // Open to the right between y 4 and y 8, with places at (4, 4) and (4, 8).
    private static final String HOOK = "(0 0,12 0,12 4,4 4,4 8,12 8,12 12,0 12,0 0)";

    public static void main(String[] args) {
        points();
        twoPlacesOrMore();
        noTwoAlike();
        mayCrossItself();
        fourPlacesOrMore();
        firstAndLastAlike();
        noOthersAlike();
        ringsThatAreSimple();
        ringsThatCross();
        ringsThatTouchThemselves();
        ringsThatCoverThemselves();
        crossingsBetweenWholeNumbers();
        holesInsideOrOn();
        holesOutside();
        holesThatLeave();
        holesAlongTheFirst();
        holesInHoles();
        holesThatCross();
        holesAlongOthers();
        oneHoleAndTheFirst();
        chainsOfHoles();
        pointsTakenOnce();
        manyHoles();
        oneBaseForAll();
        Desk.finish();
    }

    private static final List<String> TEXTS = new ArrayList<>();
    private static final List<Boolean> ANSWERS = new ArrayList<>();

    private static void due(boolean isValid, String text) {
        TEXTS.add(text);
        ANSWERS.add(isValid);
        Figure figure = Figure.of(text);
        Desk.due("the oracle says of " + text, Oracle.isValid(figure), isValid);
        for (long[] map : Maps.ALL) {
            Desk desk = new Desk();
            for (int turn = 0; turn < 3; turn++) {
                Figure image = (turn == 0 ? figure : figure.turned(turn)).mapped(map);
                desk.dueInts("FIND DISJOINT " + image.text() + ";", isValid ? new int[] {0, 0} : new int[] {3});
                desk.dueInts("ADD 1 " + image.text() + ";", isValid ? 0 : 3);
                Desk.due("live", desk.base.live(), isValid ? 1 : 0);
                desk.say("DROP 1;");
            }
        }
    }

    private static void valid(String text) {
        due(true, text);
    }

    private static void none(String text) {
        due(false, text);
    }

    private static void validHoles(String holes) {
        due(true, "POLYGON(" + SHELL + "," + holes + ")");
    }

    private static void noHoles(String holes) {
        due(false, "POLYGON(" + SHELL + "," + holes + ")");
    }

    /** "a POINT": every one is VALID. */
    private static void points() {
        valid("POINT(0 0)");
        valid("POINT(-3 7)");
        Desk desk = new Desk();
        desk.dueInts("ADD 1 POINT(1073741823 -1073741823);ADD 2 POINT(-1073741823 1073741823);", 0, 0);
    }

    /** "a LINESTRING of two places or more". */
    private static void twoPlacesOrMore() {
        none("LINESTRING(0 0)");
        valid("LINESTRING(0 0,1 0)");
        valid("LINESTRING(0 0,5 7)");
        valid("LINESTRING(0 0,1 0,1 1)");
        Desk desk = new Desk();
        desk.dueInts("ADD 1 LINESTRING(-1073741823 -1073741823,1073741823 1073741823);", 0);
    }

    /** "no two alike one behind the other": first, between, last; alike in one number only is not alike. */
    private static void noTwoAlike() {
        none("LINESTRING(0 0,0 0)");
        none("LINESTRING(0 0,0 0,1 1)");
        none("LINESTRING(0 0,1 1,1 1)");
        none("LINESTRING(0 0,1 1,1 1,2 2)");
        none("LINESTRING(0 0,0 0,0 0)");
        valid("LINESTRING(0 0,0 1,1 1,1 0)");
        valid("LINESTRING(0 0,1 1,0 0)");
        valid("LINESTRING(0 0,1 1,0 0,1 1,0 0)");
        valid("LINESTRING(0 0,1 1,2 0,0 0)");
    }

    /** "(it may cross and cover itself ..)". */
    private static void mayCrossItself() {
        valid("LINESTRING(0 0,4 4,4 0,0 4)");
        valid("LINESTRING(0 0,4 0,2 0,2 4)");
        valid("LINESTRING(0 0,4 0,0 0,4 0)");
        valid("LINESTRING(0 0,4 0,2 0)");
        valid("LINESTRING(0 0,4 0,4 4,2 0,0 4)");
    }

    /** "each ring of which has four places or more": of the first one, of a hole. */
    private static void fourPlacesOrMore() {
        none("POLYGON((0 0))");
        none("POLYGON((0 0,1 1))");
        none("POLYGON((0 0,0 0))");
        none("POLYGON((0 0,4 4,0 0))");
        none("POLYGON((0 0,4 4,2 7))");
        valid("POLYGON((0 0,4 4,0 4,0 0))");
        noHoles("(2 2)");
        noHoles("(2 2,4 2)");
        noHoles("(2 2,4 2,2 2)");
        noHoles("(2 2,4 2,4 4)");
        validHoles("(2 2,4 2,4 4,2 2)");
        noHoles("(2 2,4 2,4 4,2 2),(7 7)");
        noHoles("(7 7,8 8,7 7),(2 2,4 2,4 4,2 2)");
    }

    /** "the first and the last alike": differing in x, in y, in both; of the first one, of a hole. */
    private static void firstAndLastAlike() {
        none("POLYGON((0 0,4 0,4 4,0 4))");
        none("POLYGON((0 0,4 0,4 4,0 4,0 1))");
        none("POLYGON((0 0,4 0,4 4,0 4,1 0))");
        none("POLYGON((0 0,4 0,4 4,0 4,-1 -1))");
        none("POLYGON((0 0,4 0,4 4,0 4,4 0))");
        noHoles("(2 2,4 2,4 4,2 4)");
        noHoles("(2 2,4 2,4 4,2 4,2 3)");
        noHoles("(2 2,4 2,4 4,2 4,3 2)");
    }

    /** "no others alike one behind the other": behind the first, between, ahead of the last. */
    private static void noOthersAlike() {
        none("POLYGON((0 0,0 0,4 0,4 4,0 0))");
        none("POLYGON((0 0,4 0,4 0,4 4,0 0))");
        none("POLYGON((0 0,4 0,4 4,0 0,0 0))");
        none("POLYGON((0 0,0 0,0 0,0 0))");
        noHoles("(2 2,2 2,4 2,4 4,2 2)");
        noHoles("(2 2,4 2,4 2,4 4,2 2)");
        noHoles("(2 2,4 2,4 4,2 2,2 2)");
    }

    /** "is simple": places straight on, corners inwards, and the first place within a side are no harm. */
    private static void ringsThatAreSimple() {
        valid("POLYGON((0 0,2 0,4 0,4 4,0 4,0 0))");
        valid("POLYGON((2 0,4 0,4 4,0 4,0 0,2 0))");
        valid("POLYGON((0 0,1 0,2 0,3 0,3 1,0 0))");
        valid("POLYGON((0 0,4 0,2 1,0 4,0 0))");
        valid("POLYGON(" + HOOK + ")");
        valid("POLYGON((0 0,4 0,4 4,3 1,2 4,1 1,0 4,0 0))");
    }

    /** "its ways have no point in common but ..": two ways cross. */
    private static void ringsThatCross() {
        none("POLYGON((0 0,4 4,4 0,0 4,0 0))");
        none("POLYGON((0 0,4 0,0 4,4 4,0 0))");
        none("POLYGON((0 0,4 0,4 2,2 -1,0 0))");
        none("POLYGON((0 0,6 0,6 4,3 -2,0 4,0 0))");
    }

    /** A place on another way, a place on another place, from within and from without, and with the closing one. */
    private static void ringsThatTouchThemselves() {
        none("POLYGON((0 0,4 0,4 4,2 0,0 4,0 0))");
        none("POLYGON((0 0,8 0,6 6,5 2,2 2,2 6,8 6,8 8,0 8,0 0))");
        none("POLYGON((0 0,2 0,2 2,4 2,4 4,2 4,2 2,0 2,0 0))");
        none("POLYGON((0 0,8 0,8 8,4 0,0 8,0 0))");
        none("POLYGON((0 0,4 0,4 4,0 0,-4 4,-4 0,0 0))");
        none("POLYGON((0 0,4 0,4 4,2 2,0 4,-2 2,2 2,0 0))");
        none("POLYGON((0 0,10 0,10 10,5 10,5 0,4 10,0 10,0 0))");
        none("POLYGON((0 0,10 0,10 10,6 10,7 4,3 4,5 10,6 10,0 10,0 0))");
        none("POLYGON((0 0,4 0,4 4,0 4,0 -4,-4 -4,-4 0,0 0))");
    }

    /** Neighbours that cover one another, and others. */
    private static void ringsThatCoverThemselves() {
        none("POLYGON((0 0,4 0,2 0,0 0))");
        none("POLYGON((0 0,2 2,4 4,0 0))");
        none("POLYGON((0 0,4 0,2 0,2 2,0 0))");
        none("POLYGON((0 0,4 0,4 4,0 0,0 4,0 0))");
        none("POLYGON((0 0,4 0,4 4,0 4,0 6,0 0))");
        none("POLYGON((0 0,4 0,4 4,4 0,0 0))");
        none("POLYGON((0 0,6 0,6 3,5 3,5 0,2 0,2 3,0 3,0 0))");
        none("POLYGON((0 0,4 0,4 4,0 4,0 0,4 0,4 4,0 4,0 0))");
        none("POLYGON((0 0,4 0,8 0,8 4,4 4,4 0,0 0))");
    }

    /** In great numbers a crossing may be between whole numbers, and a miss less than a billionth of one wide. */
    private static void crossingsBetweenWholeNumbers() {
        Desk desk = new Desk();
        desk.dueInts("ADD 1 POLYGON((0 0,1000000001 1000000000,1000000000 1000000000,0 0));", 0);
        desk.dueInts("ADD 2 POLYGON((0 0,1000000001 1000000000,999999999 999999999,0 0));", 0);
        desk.dueInts("ADD 3 POLYGON((0 0,1000000000 999999999,1000000001 1000000000,0 0));", 0);
        desk.dueInts("ADD 4 POLYGON((0 0,1073741823 1073741822,1073741822 1073741821,0 0));", 0);
        desk.dueInts("ADD 5 POLYGON((-1073741823 -1073741823,1073741823 1073741822,1073741822 1073741821,-1073741823 -1073741823));", 0);
        desk.dueInts("ADD 6 POLYGON((-1073741823 -1073741823,1073741823 1073741823,1073741822 1073741822,-1073741823 -1073741823));", 3);
        // (3, 1) is on the line from (0, 0) to (1073741823, 357913941); a unit beside it is not.
        desk.dueInts("ADD 7 POLYGON((0 0,1073741823 357913941,1073741823 1000000000,3 1,0 5,0 0));", 3);
        desk.dueInts("ADD 7 POLYGON((0 0,1073741823 357913941,1073741823 1000000000,3 2,0 5,0 0));", 0);
        desk.dueInts("ADD 8 POLYGON((0 0,1073741823 357913941,1073741823 1000000000,4 1,0 5,0 0));", 3);
        desk.dueInts("ADD 9 POLYGON((0 0,1073741822 1073741823,0 1,1073741823 1073741823,0 0));", 3);
    }

    /** "the other's points are inside the first one or on it": inside, a place on a way, on a place, a way on a place. */
    private static void holesInsideOrOn() {
        validHoles("(2 2,4 2,4 4,2 4,2 2)");
        validHoles("(1 1,9 1,9 9,1 9,1 1)");
        validHoles("(0 5,2 4,2 6,0 5)");
        validHoles("(0 0,2 1,1 2,0 0)");
        validHoles("(5 10,6 8,4 8,5 10)");
        valid("POLYGON(" + HOOK + ",(1 5,4 4,3 2,1 5))");
        valid("POLYGON(" + HOOK + ",(3 2,4 4,2 6,3 2))");
        valid("POLYGON(" + HOOK + ",(3 3,4 6,2 6,3 3))");
        valid("POLYGON((0 0,10 0,5 5,10 10,0 10,0 0),(5 2,5 8,2 5,5 2))");
    }

    /** Wholly outside, beside or around, also where a single point is on the first one. */
    private static void holesOutside() {
        noHoles("(12 2,14 2,14 4,12 2)");
        noHoles("(2 12,4 12,4 14,2 12)");
        noHoles("(-2 -2,12 -2,12 12,-2 12,-2 -2)");
        noHoles("(10 5,12 4,12 6,10 5)");
        noHoles("(10 10,12 10,12 12,10 10)");
        noHoles("(-5 0,0 0,-2 4,-5 0)");
        none("POLYGON(" + HOOK + ",(6 5,8 5,8 7,6 5))");
        none("POLYGON(" + HOOK + ",(4 6,8 5,8 7,4 6))");
        none("POLYGON((2 2,4 2,4 4,2 4,2 2)," + SHELL + ")");
        none("POLYGON((4 4,8 8,4 8,4 4)," + SHELL + ")");
    }

    /** In part outside, also with all its places inside or on the first one. */
    private static void holesThatLeave() {
        noHoles("(8 2,12 2,8 4,8 2)");
        noHoles("(5 5,12 5,5 7,5 5)");
        noHoles("(5 -2,6 12,4 12,5 -2)");
        none("POLYGON(" + HOOK + ",(8 2,8 10,2 6,8 2))");
        none("POLYGON(" + HOOK + ",(12 4,12 8,2 6,12 4))");
        none("POLYGON(" + HOOK + ",(4 4,8 8,2 6,4 4))");
        none("POLYGON((0 0,10 0,5 5,10 10,0 10,0 0),(10 0,10 10,2 5,10 0))");
        none("POLYGON((0 0,10 0,5 5,10 10,0 10,0 0),(6 2,6 8,2 5,6 2))");
        none("POLYGON(" + HOOK + ",(12 4,12 8,4 8,4 4,12 4))");
    }

    /** "of each way only single points are on it": one along a side, in part, wholly and beyond; the same ring. */
    private static void holesAlongTheFirst() {
        noHoles("(0 4,2 4,2 6,0 6,0 4)");
        noHoles("(0 0,2 2,0 2,0 0)");
        noHoles("(0 0,10 0,5 5,0 0)");
        noHoles(SHELL);
        noHoles("(0 0,0 10,10 10,10 0,0 0)");
        none("POLYGON((0 0,4 0,6 0,10 0,10 10,0 10,0 0),(3 0,7 0,5 5,3 0))");
        none("POLYGON((0 0,4 0,4 1,6 1,6 0,10 0,10 10,0 10,0 0),(3 1,7 1,5 5,3 1))");
        none("POLYGON((0 0,8 8,0 8,0 0),(1 1,3 3,1 4,1 1))");
    }

    /** "neither has a point inside the other": in one another, in either order, also touching from within. */
    private static void holesInHoles() {
        noHoles("(1 1,9 1,9 9,1 9,1 1),(3 3,5 3,5 5,3 3)");
        noHoles("(3 3,5 3,5 5,3 3),(1 1,9 1,9 9,1 9,1 1)");
        noHoles("(1 1,9 1,9 9,1 9,1 1),(1 5,3 4,3 6,1 5)");
        noHoles("(1 5,3 4,3 6,1 5),(1 1,9 1,9 9,1 9,1 1)");
        noHoles("(1 1,9 1,9 9,1 9,1 1),(1 1,9 1,9 9,1 9,1 1)");
        noHoles("(1 1,9 1,9 9,1 9,1 1),(1 5,5 1,9 5,5 9,1 5)");
        // in the bay of the other, not inside it
        validHoles("(1 1,9 1,9 3,3 3,3 7,9 7,9 9,1 9,1 1),(5 4,6 4,6 6,5 4)");
        validHoles("(5 4,6 4,6 6,5 4),(1 1,9 1,9 3,3 3,3 7,9 7,9 9,1 9,1 1)");
    }

    /** Two others cross, with places in one another and without. */
    private static void holesThatCross() {
        noHoles("(1 1,5 1,5 5,1 5,1 1),(3 3,8 3,8 8,3 8,3 3)");
        noHoles("(1 4,9 4,9 6,1 6,1 4),(4 1,6 1,6 9,4 9,4 1)");
        noHoles("(2 2,8 2,5 8,2 2),(2 6,8 6,5 1,2 6)");
        noHoles("(1 1,5 1,5 5,1 5,1 1),(1 1,6 2,2 6,1 1)");
        noHoles("(5 5,9 5,5 9,5 5),(5 5,9 6,6 9,5 5)");
    }

    /** "of each way only single points are on the other". */
    private static void holesAlongOthers() {
        noHoles("(1 1,4 1,4 4,1 4,1 1),(4 1,7 1,7 4,4 4,4 1)");
        noHoles("(1 1,4 1,4 4,1 4,1 1),(4 2,7 2,7 3,4 3,4 2)");
        noHoles("(1 1,4 1,4 4,1 4,1 1),(4 3,7 3,7 6,4 6,4 3)");
        noHoles("(2 2,6 6,2 6,2 2),(3 3,5 3,5 5,3 3)");
        validHoles("(1 1,4 1,4 4,1 4,1 1),(4 4,7 4,7 7,4 7,4 4)");
        validHoles("(1 1,4 1,4 4,1 4,1 1),(4 2,7 1,7 3,4 2)");
    }

    /** "any two of its points are joined by a way within it": a hole touches the first ring once, or more often. */
    private static void oneHoleAndTheFirst() {
        validHoles("(0 5,5 4,9 5,5 6,0 5)");
        noHoles("(0 5,5 4,10 5,5 6,0 5)");
        noHoles("(0 0,5 4,10 10,4 5,0 0)");
        noHoles("(0 5,3 3,5 0,5 5,0 5)");
        noHoles("(0 5,5 0,10 5,5 10,0 5)");
        noHoles("(0 2,1 3,1 4,0 5,3 4,3 3,0 2)");
        none("POLYGON((0 0,10 0,10 4,6 5,10 6,10 10,0 10,0 0),(6 5,4 7,0 5,6 5))");
        valid("POLYGON((0 0,10 0,10 4,6 5,10 6,10 10,0 10,0 0),(6 5,4 7,1 5,6 5))");
        // two places of the first on one way of the hole
        none("POLYGON((0 0,12 0,12 4,4 5,6 6,4 7,12 8,12 12,0 12,0 0),(4 2,4 10,1 6,4 2))");
        valid("POLYGON((0 0,12 0,12 4,5 5,6 6,4 7,12 8,12 12,0 12,0 0),(4 2,4 10,1 6,4 2))");
    }

    /** "rings and points at which rings touch .. have no circle". */
    private static void chainsOfHoles() {
        validHoles("(0 5,3 4,3 6,0 5),(3 5,6 4,6 6,3 5),(6 5,9 4,9 6,6 5)");
        noHoles("(0 5,3 4,3 6,0 5),(3 5,6 4,6 6,3 5),(6 5,10 4,9 6,6 5)");
        noHoles("(0 5,3 4,3 6,0 5),(3 5,7 4,10 5,7 6,3 5)");
        noHoles("(0 5,3 3,3 7,0 5),(3 3,5 4,5 6,3 7,4 5,3 3)");
        noHoles("(2 2,4 2,4 4,2 2),(4 4,6 2,8 2,8 8,4 4),(4 2,5 1,6 2,4 2)");
        validHoles("(2 2,4 2,4 4,2 2),(4 4,6 2,8 2,8 8,4 4),(4 2,5 1,5 2,4 2)");
        noHoles("(0 3,3 2,3 5,0 3),(3 5,5 3,5 7,3 5),(5 7,6 10,4 9,5 7)");
        validHoles("(0 3,3 2,3 5,0 3),(3 5,5 3,5 7,3 5),(5 7,6 9,4 9,5 7)");
        // The third hole touches the first ring, the second the third, and then the first ring too.
        String sided = "POLYGON((0 0,10 0,10 10,0 10,0 5,0 0),(8 8,9 8,9 9,8 8),";
        none(sided + "(4 5,6 4,10 5,6 6,4 5),(0 5,4 5,3 7,0 5))");
        valid(sided + "(4 5,6 4,9 5,6 6,4 5),(0 5,4 5,3 7,0 5))");
        valid(sided + "(3 2,6 1,6 3,3 2),(0 5,4 5,3 7,0 5))");
        valid(sided + "(10 2,6 1,6 3,10 2),(1 5,4 5,3 7,1 5))");
        validHoles("(0 3,3 2,3 4,0 3),(10 7,7 6,7 8,10 7),(5 0,6 2,4 2,5 0),(5 10,6 8,4 8,5 10)");
    }

    /** "each taken once": a point at which three rings touch, one that is the first and the last place of a ring. */
    private static void pointsTakenOnce() {
        validHoles("(5 5,6 7,4 7,5 5),(5 5,7 4,7 6,5 5),(5 5,3 4,3 6,5 5)");
        noHoles("(5 5,6 7,4 7,5 5),(5 5,7 4,7 6,5 5),(5 5,3 4,4 7,5 5)");
        validHoles("(0 5,3 6,2 8,0 5),(0 5,3 4,2 2,0 5)");
        noHoles("(0 5,3 6,2 8,0 5),(0 5,3 6,2 2,0 5)");
        validHoles("(0 0,2 1,3 1,0 0),(0 0,1 2,1 3,0 0)");
        noHoles("(0 0,4 1,5 5,3 2,0 0),(0 0,2 3,5 5,1 4,0 0)");
        validHoles("(0 5,4 5,3 7,0 5),(2 5,3 3,1 3,2 5)");
    }

    /** With seven holes, the most there may be. */
    private static void manyHoles() {
        String row = "(1 5,2 4,2 5,1 5),(2 5,3 4,3 5,2 5),(3 5,4 4,4 5,3 5),(4 5,5 4,5 5,4 5),(5 5,6 4,6 5,5 5),(6 5,7 4,7 5,6 5)";
        validHoles(row + ",(7 5,9 4,9 5,7 5)");
        validHoles(row + ",(7 5,10 4,9 5,7 5)");
        noHoles(row + ",(7 5,8 7,1 7,1 5,2 6,7 5)");
        validHoles(row + ",(7 5,8 7,1 7,1 6,2 6,7 5)");
        noHoles(row.replace("(1 5,", "(0 5,").replace("2 5,1 5)", "2 5,0 5)") + ",(7 5,10 4,9 5,7 5)");
        validHoles("(5 5,9 4,9 5,5 5),(5 5,9 6,9 7,5 5),(5 5,9 8,9 9,5 5),(5 5,8 9,7 9,5 5),(5 5,6 9,5 9,5 5),(5 5,4 9,3 9,5 5),(5 5,2 9,1 9,5 5)");
    }

    /** What was asked ahead leaves no trace: all of these texts, of one base, one behind the other and back. */
    private static void oneBaseForAll() {
        int n = TEXTS.size();
        for (int from = 0; from < 2 * n; from += 40) {
            Desk desk = new Desk();
            for (int i = from; i < from + 40 && i < 2 * n; i++) {
                int row = i < n ? i : 2 * n - 1 - i;
                desk.dueInts("FIND DISJOINT " + TEXTS.get(row) + ";", ANSWERS.get(row) ? new int[] {0, 0} : new int[] {3});
            }
        }
    }
}
