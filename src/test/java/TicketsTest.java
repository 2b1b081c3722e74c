/** Promises 5 to 11, and 21: tickets, the stack, and what is told of a ticket. */
final class TicketsTest {
    private static final Checks CHECKS = new Checks("TicketsTest");
    private static final int UNKNOWN = HoleTickets.UNKNOWN;
    private static final int BAD_VALUE = HoleTickets.BAD_VALUE;
    private static final int NONE = HoleTickets.NONE;

    public static void main(String[] args) {
        promise5Sell();
        promise6Punch();
        promise7Forge();
        promise8Mend();
        promise9Turn();
        promise10Stack();
        promise11TurnStack();
        promise21Ticket();
        CHECKS.finish();
    }

    private static void due(String call, long got, long want) {
        CHECKS.due(call, got, want);
    }

    private static void promise5Sell() {
        HoleTickets x = new HoleTickets();
        due("sell(-1)", x.sell(-1), BAD_VALUE);
        due("sell(2 to the power 24)", x.sell(Checks.ALL + 1), BAD_VALUE);
        due("sell(far)", x.sell(Integer.MIN_VALUE), BAD_VALUE);
        due("nothing is recorded", x.count(9), 0);
        due("sell(0)", x.sell(0), 0);
        due("sell(all)", x.sell(Checks.ALL), 1);
        due("its holes", x.ticket(1, 0), Checks.ALL);
        due("its due ones", x.ticket(1, 1), Checks.ALL);
        due("count(6)", x.count(6), 24);
        due("count(9)", x.count(9), 2);
        for (int ticket = 2; ticket < 12; ticket++) {
            due("sell", x.sell(ticket), ticket);
        }
        String told = Checks.told(x);
        due("sell the 13th", x.sell(1), HoleTickets.FULL);
        due("sell(-1) when full", x.sell(-1), BAD_VALUE);
        CHECKS.same("errors change nothing", Checks.told(x), told);
        due("undo", x.undo(), 3);
        due("sold ones", x.count(0), 11);
        due("sell in its place", x.sell(8), 11);
        due("its holes", x.ticket(11, 0), 8);
        due("undo", x.undo(), 3);
        due("undo", x.undo(), 2);
        due("count(6) behind undo", x.count(6), 24 + 1 + 2 + 1 + 2 + 2 + 3 + 1 + 2);
    }

    private static void promise6Punch() {
        HoleTickets x = new HoleTickets();
        x.sell(Checks.set(0, 4));
        due("punch(0, 23)", x.punch(0, 23), 3);
        due("holes", x.ticket(0, 0), Checks.set(0, 4, 23));
        due("due ones", x.ticket(0, 1), Checks.set(0, 4, 23));
        due("count(6)", x.count(6), 3);
        due("count(9)", x.count(9), 2);
        due("punch(0, 23) again", x.punch(0, 23), NONE);
        due("punch(0, 0)", x.punch(0, 0), NONE);
        due("count(9)", x.count(9), 2);
        due("count(6)", x.count(6), 3);
        x.forge(0, 7, true);
        due("a forged hole", x.ticket(0, 5), 1);
        due("punch(0, 7)", x.punch(0, 7), 4);
        due("it is due then", x.ticket(0, 1), Checks.set(0, 4, 7, 23));
        due("and right", x.ticket(0, 5), 0);
        due("count(6)", x.count(6), 4);
        x.forge(0, 4, false);
        due("a hole closed by fraud is punched again", x.punch(0, 4), 4);
        due("and right", x.ticket(0, 5), 0);
        due("count(6)", x.count(6), 5);
        due("count(7)", x.count(7), 2);
        due("undo", x.undo(), 3);
        due("closed again", x.ticket(0, 3), Checks.set(4));
        due("count(6) behind undo", x.count(6), 4);
        due("punch(1, 0)", x.punch(1, 0), UNKNOWN);
        due("punch(-1, 0)", x.punch(-1, 0), UNKNOWN);
        due("punch(0, -1)", x.punch(0, -1), UNKNOWN);
        due("punch(0, 24)", x.punch(0, 24), UNKNOWN);
        due("punch(12, 24)", x.punch(12, 24), UNKNOWN);
    }

    private static void promise7Forge() {
        HoleTickets x = new HoleTickets();
        x.sell(Checks.set(1, 2));
        due("forge(0, 5, true)", x.forge(0, 5, true), 1);
        due("holes", x.ticket(0, 0), Checks.set(1, 2, 5));
        due("due ones stay", x.ticket(0, 1), Checks.set(1, 2));
        due("forge(0, 5, true) again", x.forge(0, 5, true), NONE);
        due("forge(0, 6, false)", x.forge(0, 6, false), NONE);
        due("forge(0, 1, true)", x.forge(0, 1, true), NONE);
        due("count(7)", x.count(7), 1);
        due("count(9)", x.count(9), 2);
        due("forge(0, 5, false) makes it right", x.forge(0, 5, false), 0);
        due("forge(0, 2, false)", x.forge(0, 2, false), 1);
        due("holes", x.ticket(0, 0), Checks.set(1));
        due("forge(0, 2, true) makes it right", x.forge(0, 2, true), 0);
        due("count(7)", x.count(7), 4);
        due("count(6)", x.count(6), 2);
        due("undo", x.undo(), 3);
        due("count(7) behind undo", x.count(7), 3);
        due("forge(1, 0, true)", x.forge(1, 0, true), UNKNOWN);
        due("forge(-1, 0, true)", x.forge(-1, 0, true), UNKNOWN);
        due("forge(0, 24, false)", x.forge(0, 24, false), UNKNOWN);
        due("forge(0, -1, false)", x.forge(0, -1, false), UNKNOWN);
        due("forge(0, 32, false)", x.forge(0, 32, false), UNKNOWN);
        due("forge(0, 23, true)", x.forge(0, 23, true), 1);
    }

    private static void promise8Mend() {
        HoleTickets x = new HoleTickets();
        x.sell(Checks.set(1, 2, 3));
        due("mend a right one", x.mend(0), NONE);
        x.forge(0, 1, false);
        x.forge(0, 2, false);
        x.forge(0, 9, true);
        due("mend", x.mend(0), 3);
        due("holes", x.ticket(0, 0), Checks.set(1, 2, 3));
        due("due ones", x.ticket(0, 1), Checks.set(1, 2, 3));
        due("mend again", x.mend(0), NONE);
        due("frauds stay counted", x.count(7), 3);
        due("count(6)", x.count(6), 3);
        due("undo", x.undo(), 3);
        due("false again", x.ticket(0, 0), Checks.set(3, 9));
        due("mend(1)", x.mend(1), UNKNOWN);
        due("mend(-1)", x.mend(-1), UNKNOWN);
    }

    private static void promise9Turn() {
        HoleTickets x = Checks.withMove("(0,1,2,3)(10,20)");
        x.sell(Checks.set(0, 10, 23));
        x.sell(Checks.set(0));
        x.forge(0, 3, true);
        due("turn(0, 1)", x.turn(0, 1), Checks.set(1, 0, 20, 23));
        due("due ones are turned", x.ticket(0, 1), Checks.set(1, 20, 23));
        due("the other is not", x.ticket(1, 0), Checks.set(0));
        due("turn(0, -3)", x.turn(0, -3), Checks.set(2, 1, 10, 23));
        due("turned by", x.ticket(0, 8), -2);
        due("turn(0, 9999)", x.turn(0, 9999), Checks.set(1, 0, 20, 23));
        due("turn(0, -9999)", x.turn(0, -9999), Checks.set(2, 1, 10, 23));
        due("turn(0, 4)", x.turn(0, 4), NONE);
        due("turn(0, -4)", x.turn(0, -4), NONE);
        due("turn(0, 0)", x.turn(0, 0), NONE);
        due("turn(0, 9996)", x.turn(0, 9996), NONE);
        due("turn(1, 2) though only some places move", x.turn(1, 2), Checks.set(2));
        due("turned by", x.ticket(0, 8), -2);
        due("turned by", x.ticket(1, 8), 2);
        due("count(8)", x.count(8), 5);
        due("turn(0, 10000)", x.turn(0, 10000), BAD_VALUE);
        due("turn(0, -10000)", x.turn(0, -10000), BAD_VALUE);
        due("turn(2, 10000)", x.turn(2, 10000), UNKNOWN);
        due("turn(-1, 1)", x.turn(-1, 1), UNKNOWN);
        due("undo", x.undo(), 3);
        due("turned by behind undo", x.ticket(1, 8), 0);
        due("count(8) behind undo", x.count(8), 4);
        HoleTickets sum = new HoleTickets();
        sum.sell(1);
        for (int turns = 0; turns < 5; turns++) {
            sum.turn(0, -9999);
        }
        due("powers together", sum.ticket(0, 8), -49995);
        sum.reverse();
        due("a turn the other way", sum.turn(0, 2), Checks.set(19));
        sum.undo();
        sum.undo();
        sum.exchange(0, 1);
        sum.exchange(0, 1);
        due("powers together stay when the move changes", sum.ticket(0, 8), -49995);
    }

    private static void promise10Stack() {
        HoleTickets x = new HoleTickets();
        x.sell(1);
        x.sell(2);
        due("stack(0, false)", x.stack(0, false), NONE);
        due("stack(0, true)", x.stack(0, true), 1);
        due("stack(1, true)", x.stack(1, true), 2);
        due("stack(1, true) again", x.stack(1, true), NONE);
        due("count(9)", x.count(9), 4);
        due("stack(0, false)", x.stack(0, false), 1);
        due("ticket(0, 7)", x.ticket(0, 7), 0);
        due("ticket(1, 7)", x.ticket(1, 7), 1);
        due("undo", x.undo(), 3);
        due("ticket(0, 7) behind undo", x.ticket(0, 7), 1);
        due("stack(2, true)", x.stack(2, true), UNKNOWN);
        due("stack(-1, false)", x.stack(-1, false), UNKNOWN);
        due("stack(32, false)", x.stack(32, false), UNKNOWN);
    }

    private static void promise11TurnStack() {
        HoleTickets x = Checks.withMove("(0,1,2)");
        x.sell(Checks.set(0, 5));
        x.sell(Checks.set(1));
        x.sell(Checks.set(2));
        due("turnStack(1), empty", x.turnStack(1), NONE);
        due("turnStack(10000), empty", x.turnStack(10000), BAD_VALUE);
        x.stack(0, true);
        x.stack(2, true);
        x.forge(2, 7, true);
        due("turnStack(-10000)", x.turnStack(-10000), BAD_VALUE);
        due("turnStack(3)", x.turnStack(3), NONE);
        due("turnStack(0)", x.turnStack(0), NONE);
        due("count(8)", x.count(8), 0);
        due("turnStack(-4)", x.turnStack(-4), 2);
        due("ticket(0, 0)", x.ticket(0, 0), Checks.set(2, 5));
        due("ticket(1, 0)", x.ticket(1, 0), Checks.set(1));
        due("ticket(2, 0)", x.ticket(2, 0), Checks.set(1, 7));
        due("ticket(2, 1)", x.ticket(2, 1), Checks.set(1));
        due("ticket(0, 8)", x.ticket(0, 8), -4);
        due("ticket(1, 8)", x.ticket(1, 8), 0);
        due("count(8)", x.count(8), 2);
        due("turnStack(9998)", x.turnStack(9998), 2);
        due("ticket(2, 8)", x.ticket(2, 8), 9994);
        due("one undo for all", x.undo(), 3);
        due("ticket(0, 0)", x.ticket(0, 0), Checks.set(2, 5));
        due("count(8) behind undo", x.count(8), 2);
    }

    private static void promise21Ticket() {
        HoleTickets x = Checks.withMove("(0,1,2,3)(4,5,6,7,8,9)");
        x.sell(Checks.set(0, 2, 4, 23));
        x.sell(0);
        x.forge(0, 7, true);
        x.forge(0, 23, false);
        x.forge(0, 22, true);
        due("0", x.ticket(0, 0), Checks.set(0, 2, 4, 7, 22));
        due("1", x.ticket(0, 1), Checks.set(0, 2, 4, 23));
        due("2", x.ticket(0, 2), Checks.set(7, 22));
        due("3", x.ticket(0, 3), Checks.set(23));
        due("4", x.ticket(0, 4), 5);
        due("5", x.ticket(0, 5), 1);
        due("6, two of four and two of six", x.ticket(0, 6), 6);
        due("7", x.ticket(0, 7), 0);
        due("8", x.ticket(0, 8), 0);
        due("6 without holes", x.ticket(1, 6), 1);
        due("4 without holes", x.ticket(1, 4), 0);
        due("5 of a right one", x.ticket(1, 5), 0);
        x.sell(Checks.set(0, 4));
        x.sell(Checks.set(23));
        x.sell(Checks.set(0, 1, 2, 3));
        due("6, the whole order", x.ticket(2, 6), 12);
        due("6, a place that stays", x.ticket(3, 6), 1);
        due("6, a whole round", x.ticket(4, 6), 1);
        x.stack(4, true);
        due("7 on the stack", x.ticket(4, 7), 1);
        due("ticket(0, -1)", x.ticket(0, -1), BAD_VALUE);
        due("ticket(0, 9)", x.ticket(0, 9), BAD_VALUE);
        due("ticket(5, 9)", x.ticket(5, 9), UNKNOWN);
        due("ticket(-1, 0)", x.ticket(-1, 0), UNKNOWN);
        due("ticket(12, 0)", x.ticket(12, 0), UNKNOWN);
    }
}
