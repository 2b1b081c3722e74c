/** Promises 12 to 14: the text and its faults. */
final class TextTest {
    private static final Checks CHECKS = new Checks("TextTest");
    private static final int NONE = HoleTickets.NONE;

    public static void main(String[] args) {
        promise12Type();
        promise13ClearText();
        promise14FaultEndsEarly();
        promise14FaultNoPlace();
        promise14FaultCameAlready();
        promise14FaultNotAllowed();
        promise14NoFault();
        CHECKS.finish();
    }

    private static void due(String call, long got, long want) {
        CHECKS.due(call, got, want);
    }

    private static void promise12Type() {
        HoleTickets x = new HoleTickets();
        for (int length = 1; length <= 80; length++) {
            due("type", x.type((char) (length * 800)), length);
        }
        due("type the 81st", x.type('('), HoleTickets.FULL);
        due("count(10)", x.count(10), 80);
        due("no act", x.count(9), 0);
        x.clearText();
        due("type(0)", x.type((char) 0), 1);
        due("type(65535)", x.type((char) 65535), 2);
        due("the fault is at the first one", x.fault(0), 0);
    }

    private static void promise13ClearText() {
        HoleTickets x = new HoleTickets();
        due("clearText when empty", x.clearText(), 0);
        Checks.type(x, "(1,2)");
        x.readMove();
        due("clearText", x.clearText(), 5);
        due("count(10)", x.count(10), 0);
        due("clearText again", x.clearText(), 0);
        due("no act", x.count(9), 1);
        due("the move stays", x.place(1, 0), 2);
        due("the text is empty", x.fault(1), 1);
        x.type('(');
        due("undo leaves the text", x.undo(), 0);
        due("count(10)", x.count(10), 1);
    }

    private static void dueFault(String text, int index, int kind) {
        HoleTickets x = new HoleTickets();
        Checks.type(x, text);
        due(text + " fault(0)", x.fault(0), index);
        due(text + " fault(1)", x.fault(1), kind);
        due(text + " fault(-1)", x.fault(-1), HoleTickets.BAD_VALUE);
        due(text + " fault(2)", x.fault(2), HoleTickets.BAD_VALUE);
        due(text + " count(10)", x.count(10), text.length());
        if (index != NONE) {
            due(text + " readMove()", x.readMove(), -100 - index);
            due(text + " count(9)", x.count(9), 0);
        } else {
            due(text + " readMove() is the order", x.readMove(), x.move(0));
        }
    }

    private static void promise14FaultEndsEarly() {
        String whole = "(0,23)(5,1,20)";
        for (int length = 0; length < whole.length(); length++) {
            if (length != 6) {
                dueFault(whole.substring(0, length), length, 1);
            }
        }
        dueFault("(1", 2, 1);
        dueFault("(11,1", 5, 1);
        dueFault("(1,2)(2", 7, 3);
    }

    private static void promise14FaultNoPlace() {
        dueFault("(24", 2, 2);
        dueFault("(29,", 2, 2);
        dueFault("(00", 2, 2);
        dueFault("(01,2)", 2, 2);
        dueFault("(1,07)", 4, 2);
        dueFault("(30,1)", 2, 2);
        dueFault("(99", 2, 2);
        dueFault("(100", 3, 2);
        dueFault("(230", 3, 2);
        dueFault("(1,2)(3,24)", 9, 2);
        dueFault("(5,55", 4, 2);
        dueFault("(0,00", 4, 2);
        dueFault("(12,123", 6, 2);
    }

    private static void promise14FaultCameAlready() {
        dueFault("(1,1)", 4, 3);
        dueFault("(1,1", 4, 3);
        dueFault("(1,1,", 4, 3);
        dueFault("(1,1x", 4, 3);
        dueFault("(1,1(", 4, 3);
        dueFault("(2,23,2", 7, 3);
        dueFault("(0,0", 4, 3);
        dueFault("(10,11,10)", 9, 3);
        dueFault("(1,2)(1)", 7, 3);
        dueFault("(1,2)(3,2)", 9, 3);
        dueFault("(1,2)(3,2", 9, 3);
        dueFault("(1,2)(1,24)", 7, 3);
        dueFault("(3,3,33)", 4, 3);
    }

    private static void promise14FaultNotAllowed() {
        dueFault("1,2", 0, 4);
        dueFault(" (1,2)", 0, 4);
        dueFault("()", 1, 4);
        dueFault("((", 1, 4);
        dueFault("(,", 1, 4);
        dueFault("(a", 1, 4);
        dueFault("(/", 1, 4);
        dueFault("(:", 1, 4);
        dueFault("(-1", 1, 4);
        dueFault("(1)", 2, 4);
        dueFault("(1(", 2, 4);
        dueFault("(1/", 2, 4);
        dueFault("(1:", 2, 4);
        dueFault("(1 ,2)", 2, 4);
        dueFault("(1,)", 3, 4);
        dueFault("(1,,2)", 3, 4);
        dueFault("(1,2(", 4, 4);
        dueFault("(1,2))", 5, 4);
        dueFault("(1,2),(3,4)", 5, 4);
        dueFault("(1,2)3", 5, 4);
        dueFault("(1,2)(3)", 7, 4);
        dueFault("(1,2)()", 6, 4);
        dueFault("(1" + (char) 0x0661, 2, 4);
        dueFault("(1," + (char) (65536 - 1), 3, 4);
        dueFault("(1,2" + (char) 0x2C00, 4, 4);
        dueFault((char) 0x128 + "1,2)", 0, 4);
    }

    private static void promise14NoFault() {
        dueFault("(0,1)", NONE, NONE);
        dueFault("(23,0)", NONE, NONE);
        dueFault("(1,10)", NONE, NONE);
        dueFault("(1,2)(10,20)", NONE, NONE);
        dueFault("(2,20,21,22,23,1,19)(3,4)", NONE, NONE);
        dueFault("(0,1,2,3,4,5,6,7,8,9,10,11,12,13,14,15,16,17,18,19,20,21,22,23)", NONE, NONE);
        HoleTickets x = new HoleTickets();
        Checks.type(x, "(1,2)x");
        due("a fault", x.fault(0), 5);
        Checks.type(x, "(1,2)");
        due("no fault any more", x.fault(0), NONE);
        due("no fault any more", x.fault(1), NONE);
        due("BAD_VALUE before NONE", x.fault(2), HoleTickets.BAD_VALUE);
    }
}
