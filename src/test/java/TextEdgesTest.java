/** The boundary cases of the texts, and of promises 12 to 14; each test quotes its sentence. */
final class TextEdgesTest {
    private static final Checks CHECKS = new Checks("TextEdgesTest");
    private static final int BAD_VALUE = HoleTickets.BAD_VALUE;
    private static final int FULL = HoleTickets.FULL;
    private static final int NONE = HoleTickets.NONE;
    private static final int ENDS_EARLY = 1;
    private static final int NO_PLACE = 2;
    private static final int CAME_ALREADY = 3;
    private static final int NOT_ALLOWED = 4;
    private static final String ALL_PAIRS = "(0,1)(2,3)(4,5)(6,7)(8,9)(10,11)(12,13)(14,15)(16,17)(18,19)(20,21)(22,23)";
    private static final String ALL_BUT_11 = "(0,1,2,3,4,5,6,7,8,9,10,12,13,14,15,16,17,18,19,20,21,22,23)";

    public static void main(String[] args) {
        emptyText();
        lastCharacter();
        typeWhenFull();
        typeOfAnyCharacter();
        clearTextOfEmptyAndFull();
        textIsNoState();
        faultOfBadWhat();
        faultOfNone();
        faultAtFirstAndBehindLast();
        faultIsTheFirstOne();
        roundsOneOrMore();
        placesTwoOrMore();
        placesInRange();
        placesAboveTheRange();
        placesWithZeroInFront();
        placesOfThreeDigits();
        placeThatCameAlready();
        placeThatCameAlreadyGoesOn();
        placeThatCameInAnyRound();
        placeIsJudgedBeforeTheSignBehindIt();
        otherCharacters();
        faultOfTheTextAsItIs();
        CHECKS.finish();
    }

    private static void due(String call, long got, long want) {
        CHECKS.due(call, got, want);
    }

    private static HoleTickets withText(String text) {
        HoleTickets x = new HoleTickets();
        Checks.type(x, text);
        return x;
    }

    private static HoleTickets fullText() {
        return withText(ALL_PAIRS + "(0,1,2");
    }

    private static void dueFault(String text, int index, int kind) {
        HoleTickets x = withText(text);
        due(text + " fault(0)", x.fault(0), index);
        due(text + " fault(1)", x.fault(1), kind);
        due(text + " readMove()", x.readMove(), -100 - index);
    }

    private static void dueNoFault(String text) {
        HoleTickets x = withText(text);
        due(text + " fault(0)", x.fault(0), NONE);
        due(text + " fault(1)", x.fault(1), NONE);
        due(text + " is taken", x.readMove() > 0 ? 1 : 0, 1);
    }

    // "There is a text of at most 80 characters, empty at first"; "1 if it ends too early (also if it is empty)"
    private static void emptyText() {
        HoleTickets x = new HoleTickets();
        due("length", x.count(10), 0);
        due("fault(0)", x.fault(0), 0);
        due("fault(1)", x.fault(1), ENDS_EARLY);
        due("readMove()", x.readMove(), -100);
        Checks.type(x, "(0,1)");
        x.clearText();
        due("emptied: fault(0)", x.fault(0), 0);
        due("emptied: fault(1)", x.fault(1), ENDS_EARLY);
        due("emptied: readMove()", x.readMove(), -100);
    }

    // "Returns the length of the text then; FULL if it has 80 characters"
    private static void lastCharacter() {
        HoleTickets x = new HoleTickets();
        for (int length = 1; length <= 80; length++) {
            due("type the character " + length, x.type(')'), length);
        }
        due("the 81st", x.type(')'), FULL);
        due("length", x.count(10), 80);
        due("clearText()", x.clearText(), 80);
        due("there is room again", x.type('('), 1);
    }

    // "A call that returns an error or NONE changes nothing"
    private static void typeWhenFull() {
        CHECKS.refused(TextEdgesTest::fullText, "type(')')", x -> x.type(')'), FULL);
        CHECKS.refused(TextEdgesTest::fullText, "type((char) 0)", x -> x.type((char) 0), FULL);
        CHECKS.refused(TextEdgesTest::fullText, "type((char) 65535)", x -> x.type((char) 65535), FULL);
    }

    // "character: any character"
    private static void typeOfAnyCharacter() {
        HoleTickets x = new HoleTickets();
        for (int code = 0; code <= 65535; code += code < 300 || code >= 65500 ? 1 : 163) {
            if (x.count(10) >= 80) {
                x = new HoleTickets();
            }
            due("type(" + code + ")", x.type((char) code), x.count(10));
        }
        // these would be "(0,1)" for eyes that look at eight bits alone
        dueFault(new String(new char[] {0x128, 0x230, 0x32C, 0x431, 0x529}), 0, NOT_ALLOWED);
        dueFault("(" + (char) 0x230 + ",1)", 1, NOT_ALLOWED);
        dueFault("(2" + (char) 0x130, 2, NOT_ALLOWED);
    }

    // "Returns the length that it had"
    private static void clearTextOfEmptyAndFull() {
        HoleTickets x = new HoleTickets();
        due("empty", x.clearText(), 0);
        x.type('x');
        due("one character", x.clearText(), 1);
        due("empty again", x.clearText(), 0);
        due("full", fullText().clearText(), 80);
        due("nothing is recorded", x.count(9), 0);
    }

    // "A state is everything but the text, the history and the snapshot"
    private static void textIsNoState() {
        HoleTickets x = new HoleTickets();
        x.keep();
        x.sell(1);
        Checks.type(x, "(0,1)");
        due("typing is no act", x.count(9), 1);
        due("undo()", x.undo(), 0);
        due("the text behind undo", x.count(10), 5);
        due("restore()", x.restore(), 0);
        due("the text behind restore", x.count(10), 5);
        due("it can be read", x.readMove(), 2);
    }

    // "what: 0 for its place, 1 for its kind"; "BAD_VALUE; NONE if it has none", in this order
    private static void faultOfBadWhat() {
        for (int what : new int[] {-1, 2, 32, Integer.MIN_VALUE, Integer.MAX_VALUE}) {
            CHECKS.refused(HoleTickets::new, "fault(" + what + "), empty", x -> x.fault(what), BAD_VALUE);
            CHECKS.refused(() -> withText("(0,1)"), "fault(" + what + "), right", x -> x.fault(what), BAD_VALUE);
            CHECKS.refused(() -> withText("(0,1"), "fault(" + what + "), false", x -> x.fault(what), BAD_VALUE);
        }
    }

    // "NONE if it has none"
    private static void faultOfNone() {
        CHECKS.refused(() -> withText("(0,1)"), "fault(0), the shortest", x -> x.fault(0), NONE);
        CHECKS.refused(() -> withText("(0,1)"), "fault(1), the shortest", x -> x.fault(1), NONE);
        CHECKS.refused(() -> withText(ALL_PAIRS), "fault(0), the longest", x -> x.fault(0), NONE);
        CHECKS.refused(() -> withText(ALL_PAIRS), "fault(1), the longest", x -> x.fault(1), NONE);
    }

    // "the index, from 0, of the first character that is not allowed ..; or, if there is none and it ends too early, at its length"
    private static void faultAtFirstAndBehindLast() {
        dueFault(")", 0, NOT_ALLOWED);
        dueFault("(", 1, ENDS_EARLY);
        dueFault("(2", 2, ENDS_EARLY);
        dueFault("(2,", 3, ENDS_EARLY);
        dueFault("(2,0", 4, ENDS_EARLY);
        dueNoFault("(2,0)");
        dueFault("(2,0)(", 6, ENDS_EARLY);
        dueFault("(2,0)(1", 7, ENDS_EARLY);
        dueFault(ALL_PAIRS + "(", 75, ENDS_EARLY);
        dueFault(ALL_PAIRS + "(1", 76, CAME_ALREADY);
        dueFault(ALL_PAIRS + "(12", 77, CAME_ALREADY);
        dueFault(ALL_PAIRS + "(12,2", 77, CAME_ALREADY);
        dueFault(ALL_PAIRS + "(x2345", 75, NOT_ALLOWED);
    }

    // "the first character that is not allowed at its place": what comes behind it changes nothing
    private static void faultIsTheFirstOne() {
        dueFault("x(1,1)(24", 0, NOT_ALLOWED);
        dueFault("(24,1,1)x", 2, NO_PLACE);
        dueFault("(1,1,24)x", 4, CAME_ALREADY);
        dueFault("(1)(24,1,1", 2, NOT_ALLOWED);
        dueFault("(0,1)x(", 5, NOT_ALLOWED);
    }

    // "one or more rounds one behind the other"
    private static void roundsOneOrMore() {
        dueFault("", 0, ENDS_EARLY);
        dueNoFault("(0,1)");
        dueNoFault("(0,1)(2,3)");
        dueNoFault(ALL_PAIRS);
        dueFault("(0,1) (2,3)", 5, NOT_ALLOWED);
        dueFault("(0,1),(2,3)", 5, NOT_ALLOWED);
        dueFault("(0,1)2", 5, NOT_ALLOWED);
        dueFault("(0,1))", 5, NOT_ALLOWED);
        dueFault("((0,1)", 1, NOT_ALLOWED);
        dueFault("(0,1(2,3)", 4, NOT_ALLOWED);
    }

    // "a round is "(", two or more places with "," between two, and ")""
    private static void placesTwoOrMore() {
        dueFault("()", 1, NOT_ALLOWED);
        dueFault("(,", 1, NOT_ALLOWED);
        dueFault("(,0,1)", 1, NOT_ALLOWED);
        dueFault("(0)", 2, NOT_ALLOWED);
        dueFault("(23)", 3, NOT_ALLOWED);
        dueFault("(0,)", 3, NOT_ALLOWED);
        dueFault("(0,1,)", 5, NOT_ALLOWED);
        dueFault("(0,,1)", 3, NOT_ALLOWED);
        dueFault("(0,1)()", 6, NOT_ALLOWED);
        dueFault("(0,1)(2)", 7, NOT_ALLOWED);
        dueNoFault("(0,1)(2,3)");
        dueNoFault("(0,1,2)");
        dueNoFault("(0,1,2,3,4,5,6,7,8,9,10,11,12,13,14,15,16,17,18,19,20,21,22,23)");
    }

    // "A place is 0 to 23"
    private static void placesInRange() {
        for (int place = 0; place <= 23; place++) {
            int behind = 1 + Integer.toString(place).length();
            dueFault("(" + place, behind, ENDS_EARLY);
            dueFault("(" + place + ",", behind + 1, ENDS_EARLY);
            dueFault("(" + place + ")", behind, NOT_ALLOWED);
            int other = place == 5 ? 6 : 5;
            dueNoFault("(" + place + "," + other + ")");
            dueNoFault("(" + other + "," + place + ")");
            due("it is sent to", moveOf("(" + place + "," + other + ")").place(place, 0), other);
        }
    }

    private static HoleTickets moveOf(String text) {
        HoleTickets x = withText(text);
        x.readMove();
        return x;
    }

    // "2 if the character is a digit by which the number could be no place any more"
    private static void placesAboveTheRange() {
        for (int number = 24; number <= 99; number++) {
            dueFault("(" + number, 2, NO_PLACE);
            dueFault("(" + number + ",1)", 2, NO_PLACE);
            dueFault("(0,1," + number + ")", 6, NO_PLACE);
            dueFault("(0,1)(" + number + ",5)", 7, NO_PLACE);
        }
    }

    // "without a zero in front, unless it is the single digit 0"; "(also a digit behind a 0)"
    private static void placesWithZeroInFront() {
        for (int digit = 0; digit <= 9; digit++) {
            dueFault("(0" + digit, 2, NO_PLACE);
            dueFault("(0" + digit + ",1)", 2, NO_PLACE);
            dueFault("(12,0" + digit + ")", 5, NO_PLACE);
        }
        dueNoFault("(0,12)");
        dueNoFault("(12,0)");
        dueNoFault("(10,20)");
    }

    // "a digit by which the number could be no place any more", behind two digits
    private static void placesOfThreeDigits() {
        for (int number = 100; number <= 239; number++) {
            dueFault("(" + number, 3, NO_PLACE);
        }
        dueFault("(0,1,230)", 7, NO_PLACE);
        dueFault("(1,1000)", 5, NO_PLACE);
        dueFault("(0,23999999999999", 5, NO_PLACE);
    }

    // "3 if the places that were read are right but for one that came already (.. at the first character behind .. or at the length"
    private static void placeThatCameAlready() {
        for (int place = 0; place <= 23; place++) {
            String twice = "(" + place + "," + place;
            dueFault(twice, twice.length(), CAME_ALREADY);
            for (char behind : ",)(x /:".toCharArray()) {
                dueFault(twice + behind, twice.length(), CAME_ALREADY);
            }
        }
    }

    // "also if one digit more would make another place of it": at the length; the digit itself makes that other place
    private static void placeThatCameAlreadyGoesOn() {
        dueFault("(1,1", 4, CAME_ALREADY);
        dueFault("(2,2", 4, CAME_ALREADY);
        dueFault("(1,2,1", 6, CAME_ALREADY);
        for (int digit = 0; digit <= 9; digit++) {
            dueNoFault("(1,1" + digit + ")");
            dueFault("(0,0" + digit, 4, NO_PLACE);
            dueFault("(3,3" + digit, 4, NO_PLACE);
            if (digit <= 3) {
                dueNoFault("(2,2" + digit + ")");
            } else {
                dueFault("(2,2" + digit, 4, NO_PLACE);
            }
        }
        dueFault("(1,11,1", 7, CAME_ALREADY);
        dueFault("(1,11,11", 8, CAME_ALREADY);
        dueFault("(1,11,12", 8, ENDS_EARLY);
    }

    // "no place comes twice in the text": in its round or in any other one
    private static void placeThatCameInAnyRound() {
        dueFault("(0,1,2,0)", 8, CAME_ALREADY);
        dueFault("(0,1)(2,0)", 9, CAME_ALREADY);
        dueFault("(0,1)(1,2)", 7, CAME_ALREADY);
        dueFault("(0,23)(22,23)", 12, CAME_ALREADY);
        dueFault("(23,22)(23,0)", 10, CAME_ALREADY);
        for (int place = 0; place <= 23; place++) {
            dueFault(ALL_PAIRS + "(" + place, 75 + Integer.toString(place).length(), CAME_ALREADY);
        }
        dueFault(ALL_BUT_11 + "(1", ALL_BUT_11.length() + 2, CAME_ALREADY);
        dueFault(ALL_BUT_11 + "(11", ALL_BUT_11.length() + 3, ENDS_EARLY);
        dueFault(ALL_BUT_11 + "(11)", ALL_BUT_11.length() + 3, NOT_ALLOWED);
        dueFault(ALL_BUT_11 + "(11,1)", ALL_BUT_11.length() + 5, CAME_ALREADY);
    }

    // "3 if ..", ahead of "4 if any other character is not allowed"
    private static void placeIsJudgedBeforeTheSignBehindIt() {
        dueFault("(0,1)(1)", 7, CAME_ALREADY);
        dueFault("(0,1)(2)", 7, NOT_ALLOWED);
        dueFault("(0,1,1(", 6, CAME_ALREADY);
        dueFault("(0,1,2(", 6, NOT_ALLOWED);
        dueFault("(0,1)(0x", 7, CAME_ALREADY);
        dueFault("(0,1)(2x", 7, NOT_ALLOWED);
    }

    // "4 if any other character is not allowed"
    private static void otherCharacters() {
        for (int code = 0; code < 640; code++) {
            char sign = (char) code;
            boolean isDigit = sign >= '0' && sign <= '9';
            if (sign != '(') {
                dueFault("" + sign, 0, NOT_ALLOWED);
                dueFault("(0,1)" + sign, 5, NOT_ALLOWED);
            }
            if (!isDigit) {
                dueFault("(" + sign, 1, NOT_ALLOWED);
                dueFault("(0," + sign, 3, NOT_ALLOWED);
                if (sign != ',') {
                    dueFault("(0" + sign, 2, NOT_ALLOWED);
                    dueFault("(13" + sign, 3, NOT_ALLOWED);
                }
                if (sign != ',' && sign != ')') {
                    dueFault("(0,1" + sign, 4, NOT_ALLOWED);
                    dueFault("(0,23" + sign, 5, NOT_ALLOWED);
                }
            }
        }
    }

    // "Tells the fault of the text", of what it is now
    private static void faultOfTheTextAsItIs() {
        HoleTickets x = withText("(0,1");
        due("ends early", x.fault(1), ENDS_EARLY);
        x.type(')');
        due("none", x.fault(1), NONE);
        due("readMove()", x.readMove(), 2);
        x.type(')');
        due("one too many", x.fault(0), 5);
        due("readMove()", x.readMove(), -105);
        x.clearText();
        due("empty", x.fault(0), 0);
        Checks.type(x, "(1,0)");
        due("the places of the text before are none of this one", x.fault(0), NONE);
        due("readMove()", x.readMove(), 2);
    }
}
