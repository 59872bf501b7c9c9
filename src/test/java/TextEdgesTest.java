import java.util.ArrayList;
import java.util.HashMap;
import java.util.List;
import java.util.Map;

/** The edges of "1 TEXTS", sentence by sentence: what the tape holds, what a token is, where a tape is wrong. */
public final class TextEdgesTest {
    private static final int GREATEST = 1073741823;
    private static final String[] STATEMENTS = {"ADD 1 POINT ( 1 2 ) ;", "ADD 1 LINESTRING ( 1 2 , 3 4 ) ;",
        "ADD 1 POLYGON ( ( 0 0 , 4 0 , 4 4 , 0 0 ) , ( 3 1 , 3 2 , 2 1 , 3 1 ) ) ;", "DROP 1 ;", "MOVE 1 2 3 ;",
        "FILL 1 2 LINES 3 4 5 6 ;", "BEGIN ;", "COMMIT ;", "ABORT ;", "PACK ;", "SAVE ;", "FIND WITHIN POINT ( 1 2 ) ;",
        "WINDOW 1 2 3 4 ;", "NEAR 1 2 3 ;", "JOIN TOUCHES 1 2 3 4 ;"};

    public static void main(String[] args) {
        tapeIsFull();
        blanks();
        anyBlanksBetween();
        bytesBehindAWord();
        bytesAheadOfANumber();
        bytesBehindANumber();
        signs();
        wordsAsLongAsPossible();
        digits();
        sizes();
        numbersThatAreNone();
        upToTheEnd();
        everyTokenEverywhere();
        endsTooEarly();
        firstOfTwoWrongs();
        onesOfPlacesAndRings();
        noSemicolonInAShape();
        wrongOnesDoNothing();
        Desk.finish();
    }

    private static String row(String text, int times) {
        return text.repeat(times);
    }

    /** "The TAPE has up to 4000 bytes." All of them are read, and it may end within a token or behind the last sign. */
    private static void tapeIsFull() {
        Desk desk = new Desk();
        Desk.due("4000 bytes", desk.type(row("PACK;", 800)), 4000);
        Desk.due("run of 800 statements", desk.base.run(), 800);
        Desk.due("wrong", desk.base.wrong(), -1);
        Desk.due("outputs", desk.base.outputs(), 800);
        desk = new Desk();
        desk.dueWrong(row(" ", 3996) + "PACK", 0, 4000);
        desk = new Desk();
        desk.dueWrong(row("\n", 4000), 0, -1);
        desk = new Desk();
        desk.dueWrong(row(" ", 3983) + "ADD 7 POINT(8 9);", 1, -1);
        Desk.due("the last statement of a full tape", desk.base.at(7, 0, 1), 9);
        desk = new Desk();
        desk.dueWrong(row(" ", 3994) + "DROP 1", 0, 4000);
        desk = new Desk();
        desk.dueWrong(row(" ", 3999) + "-", 0, 3999);
        desk = new Desk();
        desk.dueWrong(row("A", 4000), 0, 0);
        desk = new Desk();
        desk.dueWrong("DROP " + row("9", 3995), 0, 5);
    }

    /** "A BLANK is 32 or 10." No other byte is. */
    private static void blanks() {
        for (int b = 0; b < 256; b++) {
            Desk desk = new Desk();
            boolean isBlank = b == 32 || b == 10;
            desk.dueWrong((char) b + "PACK;", isBlank ? 1 : 0, isBlank ? -1 : 0);
            desk.dueWrong("PACK;" + (char) b, 1, isBlank ? -1 : 5);
        }
    }

    /** "TOKENS, with any BLANKS between": none, one, many; none within a token. */
    private static void anyBlanksBetween() {
        Desk desk = new Desk();
        desk.dueWrong("ADD1POINT(2-3);ADD2LINESTRING(0 0,4-5);FIND WITHIN POINT(2-3);", 3, -1);
        desk.dueOut("no blanks", 0, 0, 0, 1, 1);
        Desk.due("2-3 are two numbers", desk.base.at(1, 0, 1), -3);
        for (String between : new String[] {" ", "\n", "  ", " \n", "\n\n\n", row(" ", 100)}) {
            Desk other = new Desk();
            String text = String.join(between, "", "ADD", "1", "POLYGON", "(", "(", "0", "0", ",", "4", "0", ",", "4", "4", ",", "0",
                "0", ")", ")", ";", "DROP", "1", ";", "");
            other.dueWrong(text, 2, -1);
            other.dueOut("blanks between", 0, 0);
        }
        desk.dueWrong("DR OP 1;", 0, 0);
        desk.dueWrong("ADD 7 POINT(1 2 3);", 0, 16);
        desk.dueWrong("ADD 7 POINT(- 1 2);", 0, 12);
        desk.dueWrong("ADD 7 POINT(-\n1 2);", 0, 12);
        desk.dueWrong("ADD 7 LINE STRING(1 2,3 4);", 0, 6);
    }

    /** "WORDS (rows of A to Z as long as possible)": A and Z belong to them, the bytes beside these do not. */
    private static void bytesBehindAWord() {
        for (int b = 0; b < 256; b++) {
            Desk desk = new Desk();
            String text = "PACK;PACK" + (char) b + ";";
            boolean isBlank = b == 32 || b == 10;
            boolean isLetter = b >= 65 && b <= 90;
            int wrong = isBlank ? -1 : isLetter ? 5 : b == ';' ? 10 : 9;
            desk.dueWrong(text, isBlank || b == ';' ? 2 : 1, wrong);
        }
    }

    /** "perhaps - , then digits": these bytes alone may begin a NUMBER. */
    private static void bytesAheadOfANumber() {
        for (int b = 0; b < 256; b++) {
            Desk desk = new Desk();
            boolean isDigit = b >= 48 && b <= 57;
            boolean isGood = isDigit || b == '-' || b == 32 || b == 10;
            boolean isLetter = b >= 65 && b <= 90;
            desk.dueWrong("DROP" + (char) b + "1;", isGood ? 1 : 0, isGood ? -1 : isLetter ? 0 : 4);
        }
    }

    /** "digits, as many as there are": 0 and 9 belong to them, the bytes beside these do not. */
    private static void bytesBehindANumber() {
        for (int b = 0; b < 256; b++) {
            Desk desk = new Desk();
            boolean isDigit = b >= 48 && b <= 57;
            boolean isGood = isDigit || b == 32 || b == 10;
            desk.dueWrong("DROP 1" + (char) b + ";", isGood || b == ';' ? 1 : 0, isGood ? -1 : b == ';' ? 7 : 6);
            if (isDigit) {
                desk.dueWrong("ADD 1" + (char) b + " POINT(" + (char) b + " 5);", 1, -1);
                Desk.due("the digit " + (char) b, desk.base.at(10 + b - 48, 0, 0), b - 48);
            }
        }
    }

    /** "the signs ( ) , ;": no other byte is a sign, and none of them begins a STATEMENT. */
    private static void signs() {
        for (int b = 0; b < 256; b++) {
            Desk desk = new Desk();
            boolean isBlank = b == 32 || b == 10;
            boolean isDigit = b >= 48 && b <= 57;
            // Behind a ) stands a number, behind a digit the number goes on and the next one is too many.
            int wrong = b == ',' ? -1 : isDigit ? 23 : isBlank || b == ')' ? 21 : 20;
            desk.dueWrong("ADD 1 LINESTRING(0 0" + (char) b + "5 5);", b == ',' ? 1 : 0, wrong);
            desk.dueWrong("ADD 2 LINESTRING" + (char) b + "5 5,6 6);", b == '(' ? 1 : 0, signWrong(b, '(', 16));
            desk.dueWrong("ADD 3 LINESTRING(5 5,6 6" + (char) b + ";", b == ')' ? 1 : 0, b == ',' || isDigit ? 25 : signWrong(b, ')', 24));
        }
        Desk desk = new Desk();
        for (String sign : new String[] {"(", ")", ",", ";"}) {
            desk.dueWrong("PACK;" + sign, 1, 5);
            desk.dueWrong(sign + "PACK;", 0, 0);
        }
    }

    /** Where it is wrong if a byte stands where only the one sign may: blanks are passed, a letter makes the word ahead another one. */
    private static int signWrong(int b, char sign, int at) {
        if (b == sign) {
            return -1;
        }
        if (b == 32 || b == 10) {
            return at + 1;
        }
        return b >= 65 && b <= 90 && sign == '(' ? 6 : at;
    }

    /** "as long as possible": a word that only begins with a known one is another, and so is its beginning. */
    private static void wordsAsLongAsPossible() {
        Desk desk = new Desk();
        String[] words = {"ADD", "DROP", "MOVE", "FILL", "BEGIN", "COMMIT", "ABORT", "PACK", "SAVE", "FIND", "WINDOW", "NEAR", "JOIN"};
        for (String word : words) {
            desk.dueWrong(word + "X 1;", 0, 0);
            desk.dueWrong("X" + word + ";", 0, 0);
            desk.dueWrong(word.substring(0, word.length() - 1) + ";", 0, 0);
            desk.dueWrong(word + word + ";", 0, 0);
        }
        desk = new Desk();
        for (String word : new String[] {"INTERSECTS", "DISJOINT", "TOUCHES", "WITHIN", "CONTAINS"}) {
            desk.dueWrong("FIND " + word + " POINT(0 0);JOIN " + word + " 1 1 1 1;", 2, -1);
            desk.dueWrong("FIND " + word + "S POINT(0 0);", 0, 5);
            desk.dueWrong("JOIN " + word.substring(0, word.length() - 1) + " 1 1 1 1;", 0, 5);
        }
        for (String word : new String[] {"POINTS", "LINES", "SQUARES"}) {
            desk.dueWrong("FILL 0 0 " + word + " 0 0 0 0;", 1, -1);
            desk.dueWrong("FILL 0 0 " + word.substring(0, word.length() - 1) + " 0 0 0 0;", 0, 9);
            desk.dueWrong("FILL 0 0 " + word + "S 0 0 0 0;", 0, 9);
        }
        for (String word : new String[] {"POINT", "LINESTRING", "POLYGON"}) {
            desk.dueWrong("ADD 1 " + word + "S((0 0));", 0, 6);
            desk.dueWrong("ADD 1 " + word.substring(0, word.length() - 1) + "((0 0));", 0, 6);
        }
        desk.dueWrong("pack;", 0, 0);
        desk.dueWrong("Pack;", 0, 0);
        desk.dueWrong("PACk;", 0, 0);
        desk.dueWrong("PACKk;", 0, 4);
    }

    private static void dueNumber(String number, int value) {
        Desk desk = new Desk();
        desk.dueWrong("ADD 5 POINT(" + number + " 0);ADD 6 POINT(0 " + number + ");", 2, -1);
        Desk.due("x " + number, desk.base.at(5, 0, 0), value);
        Desk.due("y " + number, desk.base.at(6, 0, 1), value);
    }

    private static void dueNoNumber(String text) {
        Desk desk = new Desk();
        desk.dueWrong("PACK;ADD 5 POINT(" + text + " 0);", 1, 17);
        desk.dueWrong("PACK;ADD 5 POINT(0 " + text + ");", 1, 19);
        desk.dueWrong("PACK;DROP " + text + ";", 1, 10);
        desk.dueWrong("PACK;" + text + ";", 1, 5);
        Desk.due("nothing is live", desk.base.live(), 0);
    }

    /** "digits, as many as there are: 1 to 10". */
    private static void digits() {
        dueNumber("0", 0);
        dueNumber("9", 9);
        dueNumber("-0", 0);
        dueNumber("-9", -9);
        dueNumber("0000000000", 0);
        dueNumber("0000000007", 7);
        dueNumber("-0000000007", -7);
        dueNumber("1000000000", 1000000000);
        dueNumber("-1000000000", -1000000000);
        dueNumber("007", 7);
        dueNoNumber("00000000000");
        dueNoNumber("00000000007");
        dueNoNumber("-00000000007");
        dueNoNumber("01073741823");
        dueNoNumber(row("0", 30));
    }

    /** "of a size up to 1073741823". */
    private static void sizes() {
        dueNumber("1073741823", GREATEST);
        dueNumber("-1073741823", -GREATEST);
        dueNumber("1073741822", GREATEST - 1);
        dueNoNumber("1073741824");
        dueNoNumber("-1073741824");
        dueNoNumber("2147483647");
        dueNoNumber("2147483648");
        dueNoNumber("-2147483648");
        // These come to 1 and -1 in 32 bits, and to 0 in 33.
        dueNoNumber("4294967297");
        dueNoNumber("-4294967297");
        dueNoNumber("8589934592");
        dueNoNumber("9999999999");
    }

    /** "(a - without a digit, a NUMBER that is too long or too great: its first byte)": the - is the first byte of one that has it. */
    private static void numbersThatAreNone() {
        dueNoNumber("-");
        dueNoNumber("--1");
        dueNoNumber("-A");
        dueNoNumber("-(");
        // 2 to the 64th and one more: 1 in 64 bits
        dueNoNumber("18446744073709551617");
        dueNoNumber("-18446744073709551617");
        dueNoNumber("100000000000000000000000000000000");
        Desk desk = new Desk();
        desk.dueWrong("DROP -", 0, 5);
        desk.dueWrong("DROP 5-", 0, 6);
        desk.dueWrong("DROP 5-;", 0, 6);
        desk.dueWrong("-", 0, 0);
        desk.dueWrong("DROP 99999999999", 0, 5);
        desk.dueWrong("DROP 1 99999999999;", 0, 7);
    }

    /** "run() does STATEMENTS up to the TAPE's end": none, one, and all of them. */
    private static void upToTheEnd() {
        Desk desk = new Desk();
        desk.dueWrong("", 0, -1);
        desk.dueWrong("\n", 0, -1);
        desk.dueWrong("PACK;", 1, -1);
        desk.dueWrong("PACK;\n", 1, -1);
        desk.dueWrong("PACK;PACK;PACK;PACK;PACK;PACK;PACK;PACK;PACK;", 9, -1);
        for (String statement : STATEMENTS) {
            Desk other = new Desk();
            other.dueWrong(statement + statement, 2, -1);
        }
    }

    /** From, tokens, to: what may come behind what, by the document's forms. */
    private static final String[] GRAMMAR = {
        "start ADD add", "start DROP n1", "start MOVE n3", "start FILL fill", "start BEGIN,COMMIT,ABORT,PACK,SAVE semi",
        "start FIND find", "start WINDOW n4", "start NEAR n3", "start JOIN join", "semi ; start", "add 7 shape", "n4 7 n3", "n3 7 n2",
        "n2 7 n1", "n1 7 semi", "fill 7 fill2", "fill2 7 kind", "kind POINTS,LINES,SQUARES n4",
        "find INTERSECTS,DISJOINT,TOUCHES,WITHIN,CONTAINS shape", "join INTERSECTS,DISJOINT,TOUCHES,WITHIN,CONTAINS n4",
        "shape POINT p1", "shape LINESTRING l1", "shape POLYGON g1", "p1 ( p2", "p2 7 p3", "p3 7 p4", "p4 ) semi",
        "l1 ( l2", "l2 7 l3", "l3 7 l4", "l4 COMMA l2", "l4 ) semi", "g1 ( g2", "g2 ( g3", "g3 7 g4", "g4 7 g5", "g5 COMMA g3",
        "g5 ) g6", "g6 COMMA g2", "g6 ) semi"};
    private static final String[] TOKENS = {"ADD", "DROP", "MOVE", "FILL", "BEGIN", "COMMIT", "ABORT", "PACK", "SAVE", "FIND", "WINDOW",
        "NEAR", "JOIN", "POINTS", "LINES", "SQUARES", "INTERSECTS", "DISJOINT", "TOUCHES", "WITHIN", "CONTAINS", "POINT", "LINESTRING",
        "POLYGON", "7", "-7", "(", ")", ",", ";", "X", "-", "1073741824", "?", "\t"};

    private static Map<String, String> nextStates() {
        Map<String, String> next = new HashMap<>();
        for (String line : GRAMMAR) {
            String[] parts = line.split(" ");
            for (String token : parts[1].split(",")) {
                next.put(parts[0] + " " + token.replace("COMMA", ","), parts[2]);
            }
        }
        return next;
    }

    /** "WRONG at the first byte of the first TOKEN with which no row of STATEMENTS could go on": each token behind each beginning. */
    private static void everyTokenEverywhere() {
        Map<String, String> next = nextStates();
        List<String> states = new ArrayList<>(List.of("start"));
        List<String> prefixes = new ArrayList<>(List.of(""));
        for (int i = 0; i < states.size() && i < 200; i++) {
            for (String token : TOKENS) {
                Desk desk = new Desk();
                String kind = token.equals("-7") ? "7" : token;
                String to = next.get(states.get(i) + " " + kind);
                String text = prefixes.get(i) + " " + token;
                desk.dueWrong("PACK;" + text, to != null && to.equals("start") ? 2 : 1,
                    to == null ? prefixes.get(i).length() + 6 : to.equals("start") ? -1 : text.length() + 5);
                if (to != null && !to.equals("start") && prefixes.get(i).length() < 60 && !isOften(states, to)) {
                    states.add(to);
                    prefixes.add(text);
                }
            }
        }
        Desk.due("beginnings", states.size() > 45, true);
    }

    /** Whether a state has been come to by three beginnings already. */
    private static boolean isOften(List<String> states, String to) {
        int times = 0;
        for (String state : states) {
            times += state.equals(to) ? 1 : 0;
        }
        return times >= 3;
    }

    /** "at its end, if it must not end there": behind each token but the last, with and without blanks there. */
    private static void endsTooEarly() {
        for (String statement : STATEMENTS) {
            String[] tokens = statement.split(" ");
            StringBuilder text = new StringBuilder("PACK;");
            for (int i = 0; i + 1 < tokens.length; i++) {
                text.append(tokens[i]);
                Desk desk = new Desk();
                desk.dueWrong(text.toString(), 1, text.length());
                desk.dueWrong(text + " ", 1, text.length() + 1);
                desk.dueWrong(text + "\n \n", 1, text.length() + 3);
                Desk.due("nothing is live", desk.base.live(), 0);
                text.append(' ');
            }
            Desk desk = new Desk();
            desk.dueWrong(text + ";", 2, -1);
            desk.dueWrong(text + "; \n", 2, -1);
        }
    }

    /** "the first TOKEN": one behind it is not looked at, be it a word, a number or no token at all. */
    private static void firstOfTwoWrongs() {
        Desk desk = new Desk();
        desk.dueWrong("DROP X ?;", 0, 5);
        desk.dueWrong("DROP ? X;", 0, 5);
        desk.dueWrong("?\nPACK", 0, 0);
        desk.dueWrong("DROP (99999999999;", 0, 5);
        desk.dueWrong("PACK;DROP 99999999999 -", 1, 10);
        desk.dueWrong("PACK;;;", 1, 5);
    }

    /** "PLACES: one or more with , between. RINGS: one or more ( PLACES ) with , between." and POINT ( PLACE ): just one. */
    private static void onesOfPlacesAndRings() {
        Desk desk = new Desk();
        desk.dueWrong("ADD 1 LINESTRING();", 0, 17);
        desk.dueWrong("ADD 1 LINESTRING(,);", 0, 17);
        desk.dueWrong("ADD 1 LINESTRING(1 1);", 1, -1);
        desk.dueWrong("ADD 1 LINESTRING(1 1,);", 0, 21);
        desk.dueWrong("ADD 1 LINESTRING(,1 1);", 0, 17);
        desk.dueWrong("ADD 1 LINESTRING(1 1,,2 2);", 0, 21);
        desk.dueWrong("ADD 1 LINESTRING(1 1 2 2);", 0, 21);
        desk.dueWrong("ADD 1 LINESTRING(1,1 2 2);", 0, 18);
        desk.dueWrong("ADD 1 POLYGON();", 0, 14);
        desk.dueWrong("ADD 1 POLYGON(());", 0, 15);
        desk.dueWrong("ADD 1 POLYGON((1 1));", 1, -1);
        desk.dueWrong("ADD 1 POLYGON((1 1),);", 0, 20);
        desk.dueWrong("ADD 1 POLYGON((1 1),());", 0, 21);
        desk.dueWrong("ADD 1 POLYGON((1 1)(2 2));", 0, 19);
        desk.dueWrong("ADD 1 POLYGON((1 1),(2 2));", 1, -1);
        desk.dueWrong("ADD 1 POINT();", 0, 12);
        desk.dueWrong("ADD 1 POINT(1);", 0, 13);
        desk.dueWrong("ADD 1 POINT(1 1,1 1);", 0, 15);
        desk.dueWrong("ADD 1 POINT((1 1));", 0, 12);
        Desk.due("nothing is live", desk.base.live(), 0);
        Desk many = new Desk();
        String places = "0 0" + row(",1 1,0 0", 400);
        many.dueWrong("ADD 1 LINESTRING(" + places + ");", 1, -1);
        many.dueOut("801 places are right, but too many", 4);
        many.dueWrong("ADD 1 POLYGON((0 0)" + row(",(0 0)", 600) + ");", 1, -1);
        many.dueOut("601 rings are right, but too many", 4);
        many.dueWrong("ADD 1 POLYGON((0 0)" + row(",(0 0)", 600) + ",);", 0, 14 + 5 + 3600 + 1);
    }

    /** "(No ; belongs to a SHAPE.)": the one of the STATEMENT is all. */
    private static void noSemicolonInAShape() {
        Desk desk = new Desk();
        desk.dueWrong("ADD 1 POINT(1 1);;", 1, 17);
        desk.dueWrong("FIND WITHIN POINT(1 1);;", 1, 23);
        desk.dueWrong("ADD 2 LINESTRING(1 1,2 2) PACK;", 0, 26);
        desk.dueWrong("ADD 2 POLYGON((1 1;));", 0, 18);
        Desk.due("live", desk.base.live(), 1);
    }

    /** "A STATEMENT that is WRONG, and what stands behind it, does nothing; those ahead have been done." */
    private static void wrongOnesDoNothing() {
        for (String statement : STATEMENTS) {
            Desk desk = new Desk();
            String ahead = "ADD 8 POINT(8 8);ADD 1 POINT(1 1);MOVE 8 1 0;";
            desk.dueWrong(ahead + statement.replace(";", "?;") + "DROP 8;BEGIN;", 3, ahead.length() + statement.length() - 1);
            desk.dueOut("those ahead of " + statement, 0, 0, 0);
            Desk.due("live", desk.base.live(), 2);
            Desk.due("those ahead are done", desk.base.at(8, 0, 0), 9);
            Desk.due("not moved by " + statement, desk.base.at(1, 0, 0), 1);
            Desk.due("used", desk.base.used(), 6);
            Desk.due("saves", desk.base.saves(), 0);
            Desk.due("isOpen", desk.base.isOpen(), false);
        }
        for (String statement : new String[] {"COMMIT", "ABORT", "SAVE", "BEGIN"}) {
            Desk desk = new Desk();
            desk.dueWrong("BEGIN;ADD 1 POINT(1 1);" + statement + ",", 2, 23 + statement.length());
            Desk.due("still open", desk.base.isOpen(), true);
            Desk.due("still live", desk.base.live(), 1);
            Desk.due("nothing written", desk.base.used(), 0);
        }
    }
}
