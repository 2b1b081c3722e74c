/** Promises 22 to 28: tickets side by side, the light, and the accounts. */
final class ToldTest {
    private static final Checks CHECKS = new Checks("ToldTest");
    private static final int UNKNOWN = HoleTickets.UNKNOWN;
    private static final int BAD_VALUE = HoleTickets.BAD_VALUE;
    private static final int NONE = HoleTickets.NONE;

    public static void main(String[] args) {
        promise22AlikeIn();
        promise23MeetsIn();
        promise24Reason();
        promise25Kin();
        promise26Light();
        promise27BestTurn();
        promise28Count();
        CHECKS.finish();
    }

    private static void due(String call, long got, long want) {
        CHECKS.due(call, got, want);
    }

    /** Tickets on a move with rounds of 4 and 6; only those moves serve for 0 and 1 that serve in both rounds. */
    private static HoleTickets fourAndSix() {
        HoleTickets x = Checks.withMove("(0,1,2,3)(4,5,6,7,8,9)");
        x.sell(Checks.set(0, 4));
        x.sell(Checks.set(3, 9));
        x.sell(Checks.set(0, 5));
        x.sell(Checks.set(0, 1));
        x.sell(Checks.set(20));
        x.sell(0);
        x.sell(Checks.set(0, 4));
        x.sell(Checks.set(1, 5));
        return x;
    }

    private static void promise22AlikeIn() {
        HoleTickets x = fourAndSix();
        due("alikeIn(0, 1)", x.alikeIn(0, 1), 11);
        due("alikeIn(1, 0)", x.alikeIn(1, 0), 1);
        due("alikeIn(0, 7)", x.alikeIn(0, 7), 1);
        due("alikeIn(0, 0)", x.alikeIn(0, 0), 0);
        due("alikeIn(0, 6)", x.alikeIn(0, 6), 0);
        due("alikeIn(0, 2)", x.alikeIn(0, 2), NONE);
        due("alikeIn(0, 3)", x.alikeIn(0, 3), NONE);
        due("alikeIn(5, 5)", x.alikeIn(5, 5), 0);
        due("alikeIn(0, 8)", x.alikeIn(0, 8), UNKNOWN);
        due("alikeIn(8, 0)", x.alikeIn(8, 0), UNKNOWN);
        due("alikeIn(-1, 0)", x.alikeIn(-1, 0), UNKNOWN);
        due("alikeIn(0, -1)", x.alikeIn(0, -1), UNKNOWN);
        due("alikeIn(12, 12)", x.alikeIn(12, 12), UNKNOWN);
        x.forge(0, 4, false);
        x.forge(7, 5, false);
        due("holes tell, not due ones", x.alikeIn(7, 0), 3);
        HoleTickets far = Checks.withMove("(0,1,2,3,4)(5,6,7)(8,9,10,11,12,13,14,15)(16,17,18,19,20,21,22)");
        far.sell(Checks.set(0, 5, 8, 16));
        far.sell(Checks.set(4, 7, 15, 22));
        due("the most moves", far.alikeIn(0, 1), 839);
    }

    private static void promise23MeetsIn() {
        HoleTickets x = fourAndSix();
        due("meetsIn(0, 6)", x.meetsIn(0, 6), 0);
        due("meetsIn(0, 0)", x.meetsIn(0, 0), 0);
        due("meetsIn(0, 1), the nearest of two", x.meetsIn(0, 1), 3);
        due("meetsIn(1, 0)", x.meetsIn(1, 0), 1);
        due("meetsIn(0, 2), one hole is enough", x.meetsIn(0, 2), 0);
        due("meetsIn(0, 4)", x.meetsIn(0, 4), NONE);
        due("meetsIn(5, 5)", x.meetsIn(5, 5), NONE);
        due("meetsIn(0, 5)", x.meetsIn(0, 5), NONE);
        due("meetsIn(8, 0)", x.meetsIn(8, 0), UNKNOWN);
        due("meetsIn(0, 8)", x.meetsIn(0, 8), UNKNOWN);
        due("meetsIn(-1, 0)", x.meetsIn(-1, 0), UNKNOWN);
        HoleTickets one = new HoleTickets();
        one.sell(Checks.set(0));
        one.sell(Checks.set(23));
        due("the most moves", one.meetsIn(0, 1), 23);
        due("the way over 23", one.meetsIn(1, 0), 1);
        one.forge(0, 23, true);
        due("forged holes meet", one.meetsIn(0, 1), 0);
        one.forge(1, 23, false);
        due("closed ones do not", one.meetsIn(0, 1), NONE);
    }

    private static void promise24Reason() {
        HoleTickets x = fourAndSix();
        due("reason(0, 0)", x.reason(0, 0), 0);
        due("reason(0, 6)", x.reason(0, 6), 0);
        due("reason(0, 1)", x.reason(0, 1), 0);
        due("reason(0, 2)", x.reason(0, 2), 3);
        due("reason(0, 3)", x.reason(0, 3), 2);
        due("reason(0, 4)", x.reason(0, 4), 1);
        due("reason(4, 5)", x.reason(4, 5), 1);
        x.sell(Checks.set(21));
        due("rounds of one place", x.reason(4, 8), 2);
        x.sell(Checks.set(0, 2));
        due("one round, other distances", x.reason(3, 9), 3);
        due("reason(0, 10)", x.reason(0, 10), UNKNOWN);
        due("reason(10, 0)", x.reason(10, 0), UNKNOWN);
        due("reason(-1, -1)", x.reason(-1, -1), UNKNOWN);
        x.forge(8, 21, false);
        x.forge(8, 20, true);
        due("holes tell, not due ones", x.reason(4, 8), 0);
    }

    private static void promise25Kin() {
        HoleTickets x = fourAndSix();
        due("kin(0)", x.kin(0), Checks.set(0, 1, 6, 7));
        due("kin(7)", x.kin(7), Checks.set(0, 1, 6, 7));
        due("kin(2)", x.kin(2), Checks.set(2));
        due("kin(5), unsold ones are none", x.kin(5), Checks.set(5));
        x.forge(1, 3, false);
        due("kin(0)", x.kin(0), Checks.set(0, 6, 7));
        due("kin(8)", x.kin(8), UNKNOWN);
        due("kin(-1)", x.kin(-1), UNKNOWN);
        HoleTickets far = Checks.withMove("(0,1,2,3,4)(5,6,7)(8,9,10,11,12,13,14,15)(16,17,18,19,20,21,22)");
        far.sell(Checks.set(0, 5, 8, 16));
        for (int ticket = 1; ticket < 12; ticket++) {
            far.sell(Checks.set(4, 7, 15, 22));
        }
        due("kin behind 839 moves", far.kin(0), 4095);
    }

    private static void promise26Light() {
        HoleTickets x = new HoleTickets();
        x.sell(Checks.set(0, 5, 23));
        x.sell(Checks.set(5, 23));
        x.sell(Checks.ALL);
        due("an empty stack", x.light(), 0);
        x.stack(2, true);
        due("all places", x.light(), Checks.ALL);
        x.stack(0, true);
        due("two tickets", x.light(), Checks.set(0, 5, 23));
        x.stack(1, true);
        due("three tickets", x.light(), Checks.set(5, 23));
        x.forge(1, 23, false);
        due("a hole closed by fraud", x.light(), Checks.set(5));
        x.forge(1, 0, true);
        due("a forged hole", x.light(), Checks.set(0, 5));
        x.turn(1, 1);
        due("a turned ticket", x.light(), 0);
        x.stack(1, false);
        x.stack(0, false);
        x.stack(2, false);
        due("an empty stack again", x.light(), 0);
    }

    private static void promise27BestTurn() {
        HoleTickets x = new HoleTickets();
        x.sell(Checks.set(0, 1, 5));
        x.sell(Checks.set(10, 11, 15, 20));
        x.sell(0);
        due("not on the stack", x.bestTurn(0, 0), HoleTickets.NOT_POSSIBLE);
        due("UNKNOWN first", x.bestTurn(3, 2), UNKNOWN);
        due("bestTurn(-1, 0)", x.bestTurn(-1, 0), UNKNOWN);
        due("then BAD_VALUE", x.bestTurn(0, 2), BAD_VALUE);
        due("bestTurn(0, -1)", x.bestTurn(0, -1), BAD_VALUE);
        x.stack(0, true);
        due("alone: power", x.bestTurn(0, 0), 0);
        due("alone: places", x.bestTurn(0, 1), 3);
        x.stack(1, true);
        due("the power", x.bestTurn(0, 0), 10);
        due("the places", x.bestTurn(0, 1), 3);
        due("the other one: power", x.bestTurn(1, 0), 14);
        due("the other one: places", x.bestTurn(1, 1), 3);
        due("nothing is turned", x.light(), 0);
        due("no act", x.ticket(0, 0), Checks.set(0, 1, 5));
        x.stack(2, true);
        due("no light at all: power", x.bestTurn(0, 0), 0);
        due("no light at all: places", x.bestTurn(0, 1), 0);
        x.stack(2, false);
        x.sell(Checks.set(10, 20));
        x.stack(3, true);
        due("the least power among equals", x.bestTurn(0, 0), 5);
        due("with three tickets", x.bestTurn(0, 1), 1);
        HoleTickets far = Checks.withMove("(0,1,2,3,4)(5,6,7)(8,9,10,11,12,13,14,15)(16,17,18,19,20,21,22)");
        far.sell(Checks.set(0, 5, 8, 16));
        far.sell(Checks.set(4, 7, 15, 22));
        far.stack(0, true);
        far.stack(1, true);
        due("the greatest power", far.bestTurn(0, 0), 839);
        due("its places", far.bestTurn(0, 1), 4);
    }

    private static void promise28Count() {
        HoleTickets x = Checks.withMove("(0,1,2)");
        x.sell(Checks.set(0, 5, 7));
        x.sell(Checks.set(1, 5));
        x.sell(Checks.set(2));
        x.stack(0, true);
        x.stack(1, true);
        x.forge(0, 9, true);
        x.forge(0, 7, false);
        x.forge(1, 7, true);
        x.forge(1, 8, true);
        x.forge(2, 2, false);
        x.forge(2, 2, true);
        x.turnStack(1);
        x.turn(2, 2);
        x.punch(2, 22);
        x.punch(1, 8);
        dueCounts(x, 3, 2, 2, 9, 8, 1, 8, 6, 3, 4, 7);
        x.undo();
        dueCounts(x, 3, 2, 2, 9, 7, 1, 7, 6, 3, 3, 7);
        x.mend(0);
        x.mend(1);
        dueCounts(x, 3, 2, 0, 7, 7, 1, 7, 6, 3, 4, 7);
        x.stack(0, false);
        x.stack(1, false);
        x.clearText();
        dueCounts(x, 3, 0, 0, 7, 7, 0, 7, 6, 3, 4, 0);
        due("count(-1)", x.count(-1), BAD_VALUE);
        due("count(11)", x.count(11), BAD_VALUE);
        due("count(far)", x.count(Integer.MAX_VALUE), BAD_VALUE);
    }

    private static void dueCounts(HoleTickets x, int... counts) {
        for (int what = 0; what < counts.length; what++) {
            due("count(" + what + ")", x.count(what), counts[what]);
        }
    }
}
