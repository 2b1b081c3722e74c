/** The boundary cases of the terms of the tickets, and of promises 5 to 11 and 21; each test quotes its sentence. */
final class TicketEdgesTest {
    private static final Checks CHECKS = new Checks("TicketEdgesTest");
    private static final int UNKNOWN = HoleTickets.UNKNOWN;
    private static final int BAD_VALUE = HoleTickets.BAD_VALUE;
    private static final int FULL = HoleTickets.FULL;
    private static final int NONE = HoleTickets.NONE;
    /** In someState(), where three are sold; 32 would be the ticket 0 for a shift, which looks at five bits alone. */
    private static final int[] NO_TICKETS = {-1, 3, 11, 12, 31, 32, -32, 256, Integer.MIN_VALUE, Integer.MAX_VALUE};
    private static final int[] NO_POWERS = {-10000, 10000, Integer.MIN_VALUE, Integer.MAX_VALUE};

    public static void main(String[] args) {
        ticketsOutOfRange();
        noTicketIsSoldYet();
        lastTicket();
        ticketThatWasUndone();
        sellOfRefusedHoles();
        sellOfNoneAndAllHoles();
        sellWhenFull();
        sellBehindUndoAndRestore();
        punchThatIsNone();
        punchFromNoneToAllHoles();
        punchOverForgedAndClosedHoles();
        forgeThatIsNone();
        forgeOfFirstAndLastHole();
        forgeBackToRight();
        forgeOfOneOfTwoPlaces();
        mendThatIsNone();
        mendOfOneAndAllPlaces();
        mendOfEqualNumbers();
        turnOutOfRange();
        turnThatIsNone();
        turnAtItsEnds();
        turnOverTheLastPlace();
        turnOfHolesThatStay();
        turnOfForgedAndClosedHoles();
        stackThatIsNone();
        stackOfFirstAndLast();
        turnStackOutOfRange();
        turnStackThatIsNone();
        turnStackOfOneAndAll();
        ticketOfBadWhat();
        ticketOfNoneAndAllHoles();
        ticketOfLeastAndMostMoves();
        ticketOfPowersTogether();
        CHECKS.finish();
    }

    private static void due(String call, long got, long want) {
        CHECKS.due(call, got, want);
    }

    private static HoleTickets still() {
        HoleTickets x = Checks.withMove("(0,1)");
        x.exchange(0, 1);
        return x;
    }

    private static HoleTickets full() {
        HoleTickets x = new HoleTickets();
        for (int ticket = 0; ticket < 12; ticket++) {
            x.sell(Checks.set(ticket, 23));
        }
        return x;
    }

    private static HoleTickets fullStack() {
        HoleTickets x = full();
        for (int ticket = 0; ticket < 12; ticket++) {
            x.stack(ticket, true);
        }
        return x;
    }

    // "UNKNOWN: There is no such ticket or place"; "NONE is no error; it is returned only if no error applies"
    private static void ticketsOutOfRange() {
        for (int ticket : NO_TICKETS) {
            String name = "(" + ticket + ", ..)";
            CHECKS.refused(Checks::someState, "punch" + name, x -> x.punch(ticket, 0), UNKNOWN);
            CHECKS.refused(Checks::someState, "punch" + name, x -> x.punch(ticket, 24), UNKNOWN);
            CHECKS.refused(Checks::someState, "forge" + name, x -> x.forge(ticket, 0, true), UNKNOWN);
            CHECKS.refused(Checks::someState, "forge" + name, x -> x.forge(ticket, 0, false), UNKNOWN);
            CHECKS.refused(Checks::someState, "mend" + name, x -> x.mend(ticket), UNKNOWN);
            CHECKS.refused(Checks::someState, "turn" + name, x -> x.turn(ticket, 1), UNKNOWN);
            CHECKS.refused(Checks::someState, "turn" + name, x -> x.turn(ticket, 0), UNKNOWN);
            CHECKS.refused(Checks::someState, "turn" + name, x -> x.turn(ticket, 10000), UNKNOWN);
            CHECKS.refused(Checks::someState, "stack" + name, x -> x.stack(ticket, true), UNKNOWN);
            CHECKS.refused(Checks::someState, "stack" + name, x -> x.stack(ticket, false), UNKNOWN);
            CHECKS.refused(Checks::someState, "ticket" + name, x -> x.ticket(ticket, 9), UNKNOWN);
            for (int what = 0; what <= 8; what++) {
                int told = what;
                CHECKS.refused(Checks::someState, "ticket" + name, x -> x.ticket(ticket, told), UNKNOWN);
            }
        }
    }

    // "numbered from 0": without any ticket there is no ticket 0
    private static void noTicketIsSoldYet() {
        CHECKS.refused(HoleTickets::new, "punch(0, 0)", x -> x.punch(0, 0), UNKNOWN);
        CHECKS.refused(HoleTickets::new, "forge(0, 0, true)", x -> x.forge(0, 0, true), UNKNOWN);
        CHECKS.refused(HoleTickets::new, "mend(0)", x -> x.mend(0), UNKNOWN);
        CHECKS.refused(HoleTickets::new, "turn(0, 1)", x -> x.turn(0, 1), UNKNOWN);
        CHECKS.refused(HoleTickets::new, "stack(0, true)", x -> x.stack(0, true), UNKNOWN);
        CHECKS.refused(HoleTickets::new, "stack(0, false)", x -> x.stack(0, false), UNKNOWN);
        CHECKS.refused(HoleTickets::new, "ticket(0, 0)", x -> x.ticket(0, 0), UNKNOWN);
    }

    // "At most 12 tickets are sold ever, numbered from 0": the last one has the number 11, and no other is there
    private static void lastTicket() {
        HoleTickets x = full();
        due("punch(11, 0)", x.punch(11, 0), 3);
        due("forge(11, 5, true)", x.forge(11, 5, true), 1);
        due("mend(11)", x.mend(11), 1);
        due("turn(11, 1)", x.turn(11, 1), Checks.set(0, 1, 12));
        due("stack(11, true)", x.stack(11, true), 1);
        due("ticket(11, 8)", x.ticket(11, 8), 1);
        CHECKS.refused(TicketEdgesTest::full, "punch(12, 0)", y -> y.punch(12, 0), UNKNOWN);
        CHECKS.refused(TicketEdgesTest::full, "forge(12, 0, true)", y -> y.forge(12, 0, true), UNKNOWN);
        CHECKS.refused(TicketEdgesTest::full, "mend(12)", y -> y.mend(12), UNKNOWN);
        CHECKS.refused(TicketEdgesTest::full, "turn(12, 1)", y -> y.turn(12, 1), UNKNOWN);
        CHECKS.refused(TicketEdgesTest::full, "stack(12, true)", y -> y.stack(12, true), UNKNOWN);
        CHECKS.refused(TicketEdgesTest::full, "ticket(12, 0)", y -> y.ticket(12, 0), UNKNOWN);
    }

    // "UNKNOWN: There is no such ticket": nor one whose sale was undone, of which nothing is left when another is sold
    private static void ticketThatWasUndone() {
        HoleTickets x = new HoleTickets();
        x.sell(Checks.set(3));
        x.turn(0, 5);
        x.stack(0, true);
        x.forge(0, 1, true);
        x.undo();
        x.undo();
        x.undo();
        due("undo()", x.undo(), 0);
        due("ticket(0, 0)", x.ticket(0, 0), UNKNOWN);
        due("place(8, 4)", x.place(8, 4), 0);
        due("sell(0)", x.sell(0), 0);
        due("its holes", x.ticket(0, 0), 0);
        due("its due ones", x.ticket(0, 1), 0);
        due("on no stack", x.ticket(0, 7), 0);
        due("turned by nothing", x.ticket(0, 8), 0);
        due("frauds", x.count(7), 0);
    }

    // "holes: a set of places, 0 to 16777215"; "Returns its number; BAD_VALUE; FULL if 12 were sold", in this order
    private static void sellOfRefusedHoles() {
        for (int holes : new int[] {-1, Checks.ALL + 1, 1 << 25, Integer.MIN_VALUE, Integer.MAX_VALUE}) {
            CHECKS.refused(Checks::someState, "sell(" + holes + ")", x -> x.sell(holes), BAD_VALUE);
            CHECKS.refused(TicketEdgesTest::full, "sell(" + holes + ") when full", x -> x.sell(holes), BAD_VALUE);
        }
    }

    // "0 to 16777215", both of them in the range
    private static void sellOfNoneAndAllHoles() {
        HoleTickets x = new HoleTickets();
        due("sell(0)", x.sell(0), 0);
        due("no hole was punched", x.count(6), 0);
        due("it is recorded", x.count(9), 1);
        due("sell(16777215)", x.sell(16777215), 1);
        due("24 holes were punched", x.count(6), 24);
        due("holes of the first", x.ticket(0, 0), 0);
        due("holes of the second", x.ticket(1, 0), 16777215);
        due("sell(8388608), the highest place", x.sell(8388608), 2);
        due("its holes", x.ticket(2, 4), 1);
        due("sell(1), the lowest place", x.sell(1), 3);
        due("place(0, 4)", x.place(0, 4), Checks.set(1, 3));
        due("place(23, 4)", x.place(23, 4), Checks.set(1, 2));
    }

    // "FULL if 12 were sold"
    private static void sellWhenFull() {
        HoleTickets x = new HoleTickets();
        for (int ticket = 0; ticket < 12; ticket++) {
            due("sell", x.sell(0), ticket);
        }
        due("the 13th", x.sell(0), FULL);
        due("count(0)", x.count(0), 12);
        CHECKS.refused(TicketEdgesTest::full, "sell(0) when full", y -> y.sell(0), FULL);
        CHECKS.refused(TicketEdgesTest::full, "sell(16777215) when full", y -> y.sell(16777215), FULL);
    }

    // "A state is everything but the text, the history and the snapshot": how many were sold belongs to it
    private static void sellBehindUndoAndRestore() {
        HoleTickets x = new HoleTickets();
        for (int ticket = 0; ticket < 11; ticket++) {
            x.sell(ticket);
        }
        due("keep()", x.keep(), 11);
        due("sell", x.sell(1), 11);
        due("the 13th", x.sell(1), FULL);
        due("undo()", x.undo(), 3);
        due("there is room for one", x.sell(2), 11);
        due("and for no other", x.sell(2), FULL);
        due("restore()", x.restore(), 11);
        due("there is room for one", x.sell(4), 11);
        due("its holes", x.ticket(11, 0), 4);
        due("and for no other", x.sell(4), FULL);
    }

    // "NONE if it has a hole there that is due": neither a forged hole is one, nor a due place without a hole
    private static void punchThatIsNone() {
        CHECKS.refused(Checks::someState, "punch(0, 23)", x -> x.punch(0, 23), NONE);
        CHECKS.refused(Checks::someState, "punch(0, 0)", x -> x.punch(0, 0), NONE);
        due("a forged hole is not due", Checks.someState().punch(0, 9), 3);
        due("a closed one is no hole", Checks.someState().punch(0, 3), 4);
        HoleTickets all = new HoleTickets();
        all.sell(Checks.ALL);
        for (int place = 0; place < 24; place++) {
            due("punch(0, " + place + ") where all are due", all.punch(0, place), NONE);
        }
        due("nothing is recorded", all.count(9), 1);
    }

    // "Returns how many holes it has then"
    private static void punchFromNoneToAllHoles() {
        HoleTickets x = new HoleTickets();
        x.sell(0);
        for (int place = 0; place < 24; place++) {
            due("punch(0, " + place + ")", x.punch(0, place), place + 1);
        }
        due("all holes", x.ticket(0, 0), Checks.ALL);
        due("all are due", x.ticket(0, 1), Checks.ALL);
        due("punched", x.count(6), 24);
    }

    // "a place that has a forged hole has a due one then"
    private static void punchOverForgedAndClosedHoles() {
        HoleTickets x = new HoleTickets();
        x.sell(Checks.set(23));
        x.forge(0, 0, true);
        due("over a forged hole, no hole more", x.punch(0, 0), 2);
        due("right then", x.ticket(0, 5), 0);
        due("again", x.punch(0, 0), NONE);
        due("punched", x.count(6), 2);
        x.forge(0, 23, false);
        due("false", x.ticket(0, 5), 1);
        due("at a closed hole, one more", x.punch(0, 23), 2);
        due("right then", x.ticket(0, 5), 0);
        due("punched", x.count(6), 3);
        due("frauds stay", x.count(7), 2);
        x.forge(0, 5, true);
        due("beside a forged hole", x.punch(0, 6), 4);
        due("still false", x.ticket(0, 5), 1);
    }

    // "NONE if it is so already": for holes and for places without one, due or not
    private static void forgeThatIsNone() {
        CHECKS.refused(Checks::someState, "an open due hole", x -> x.forge(0, 0, true), NONE);
        CHECKS.refused(Checks::someState, "an open forged hole", x -> x.forge(0, 9, true), NONE);
        CHECKS.refused(Checks::someState, "a closed due hole", x -> x.forge(0, 3, false), NONE);
        CHECKS.refused(Checks::someState, "a place without one", x -> x.forge(0, 22, false), NONE);
        CHECKS.refused(Checks::someState, "a ticket without holes", x -> x.forge(2, 0, false), NONE);
        CHECKS.refused(Checks::someState, "the highest place", x -> x.forge(0, 23, true), NONE);
    }

    // "Forges a hole, or closes one by fraud", the first one of a ticket and its last one
    private static void forgeOfFirstAndLastHole() {
        HoleTickets x = new HoleTickets();
        x.sell(0);
        x.sell(Checks.ALL);
        for (int place = 0; place < 24; place++) {
            due("forge(0, " + place + ", true)", x.forge(0, place, true), 1);
            due("forge(1, " + place + ", false)", x.forge(1, place, false), 1);
        }
        due("all are forged", x.ticket(0, 2), Checks.ALL);
        due("none is due", x.ticket(0, 1), 0);
        due("all are closed", x.ticket(1, 3), Checks.ALL);
        due("no hole", x.ticket(1, 4), 0);
        due("frauds", x.count(7), 48);
        due("punched", x.count(6), 24);
    }

    // "Returns 1 if the ticket is false then, otherwise 0"
    private static void forgeBackToRight() {
        HoleTickets x = new HoleTickets();
        x.sell(Checks.set(23));
        due("a hole", x.forge(0, 0, true), 1);
        due("it is closed", x.forge(0, 0, false), 0);
        due("the due one is closed", x.forge(0, 23, false), 1);
        due("it is opened", x.forge(0, 23, true), 0);
        due("all are frauds", x.count(7), 4);
        due("mend(0)", x.mend(0), NONE);
    }

    // "A ticket is false if its holes are not its due ones": as many holes as due ones are not enough
    private static void forgeOfOneOfTwoPlaces() {
        HoleTickets x = new HoleTickets();
        x.sell(Checks.set(4));
        due("a hole", x.forge(0, 5, true), 1);
        due("the other is closed", x.forge(0, 4, false), 1);
        due("one hole, one due", x.ticket(0, 4), 1);
        due("false", x.ticket(0, 5), 1);
        due("one of two is right again", x.forge(0, 5, false), 1);
        due("both are", x.forge(0, 4, true), 0);
    }

    // "NONE if it is not false"
    private static void mendThatIsNone() {
        CHECKS.refused(Checks::someState, "mend(1)", x -> x.mend(1), NONE);
        CHECKS.refused(Checks::someState, "mend(2), without holes", x -> x.mend(2), NONE);
        CHECKS.refused(TicketEdgesTest::full, "mend(11)", x -> x.mend(11), NONE);
    }

    // "Returns how many places are different then"
    private static void mendOfOneAndAllPlaces() {
        HoleTickets x = new HoleTickets();
        x.sell(0);
        x.sell(Checks.ALL);
        x.forge(0, 23, true);
        due("one place", x.mend(0), 1);
        for (int place = 0; place < 24; place++) {
            x.forge(0, place, true);
            x.forge(1, place, false);
        }
        due("all forged", x.mend(0), 24);
        due("no hole", x.ticket(0, 0), 0);
        due("all closed", x.mend(1), 24);
        due("all holes", x.ticket(1, 0), Checks.ALL);
        due("again", x.mend(1), NONE);
        due("frauds stay", x.count(7), 49);
        due("punched ones too", x.count(6), 24);
    }

    // "Returns how many places are different then": forged and closed ones both count
    private static void mendOfEqualNumbers() {
        HoleTickets x = new HoleTickets();
        x.sell(Checks.set(0, 1));
        x.forge(0, 0, false);
        x.forge(0, 23, true);
        due("as many holes as due ones", x.ticket(0, 4), 2);
        due("mend(0)", x.mend(0), 2);
        due("holes", x.ticket(0, 0), Checks.set(0, 1));
    }

    // "Returns its holes then, as a set; UNKNOWN; BAD_VALUE; NONE .."
    private static void turnOutOfRange() {
        for (int power : NO_POWERS) {
            CHECKS.refused(Checks::someState, "turn(0, " + power + ")", x -> x.turn(0, power), BAD_VALUE);
            CHECKS.refused(Checks::someState, "turn(3, " + power + ")", x -> x.turn(3, power), UNKNOWN);
        }
        // 10008 is a multiple of the order, and no power for all that
        CHECKS.refused(Checks::someState, "turn(0, 10008)", x -> x.turn(0, 10008), BAD_VALUE);
        CHECKS.refused(Checks::someState, "turn(0, -10008)", x -> x.turn(0, -10008), BAD_VALUE);
    }

    // "NONE if each place would be sent to itself"
    private static void turnThatIsNone() {
        for (int power : new int[] {0, 12, -12, 24, 9996, -9996}) {
            CHECKS.refused(Checks::someState, "turn(0, " + power + ")", x -> x.turn(0, power), NONE);
        }
        for (int power : new int[] {-9999, -1, 0, 1, 9999}) {
            CHECKS.refused(() -> {
                HoleTickets x = still();
                x.sell(1);
                return x;
            }, "turn(0, " + power + ") when all stay", x -> x.turn(0, power), NONE);
        }
    }

    // "power: -9999 to 9999", both of them in the range
    private static void turnAtItsEnds() {
        HoleTickets x = new HoleTickets();
        x.sell(Checks.set(0));
        due("turn(0, 9999)", x.turn(0, 9999), Checks.set(15));
        due("turn(0, -9999)", x.turn(0, -9999), Checks.set(0));
        due("turn(0, -9999) again", x.turn(0, -9999), Checks.set(9));
        due("powers together", x.ticket(0, 8), -9999);
        due("turns", x.count(8), 3);
    }

    // "all its holes .. go from their places to those to which the power sends them", from 23 to 0 and back
    private static void turnOverTheLastPlace() {
        HoleTickets x = new HoleTickets();
        x.sell(Checks.set(22, 23));
        due("turn(0, 1)", x.turn(0, 1), Checks.set(23, 0));
        due("turn(0, 1)", x.turn(0, 1), Checks.set(0, 1));
        due("turn(0, -1)", x.turn(0, -1), Checks.set(23, 0));
        due("turn(0, 25)", x.turn(0, 25), Checks.set(0, 1));
        due("turn(0, -25)", x.turn(0, -25), Checks.set(23, 0));
        due("turn(0, 23)", x.turn(0, 23), Checks.set(22, 23));
    }

    // "NONE if each place would be sent to itself": it is an act as soon as any place moves, with a hole or without
    private static void turnOfHolesThatStay() {
        HoleTickets x = Checks.withMove("(0,1)");
        x.sell(0);
        x.sell(Checks.ALL);
        x.sell(Checks.set(23));
        due("without holes", x.turn(0, 1), 0);
        due("with all holes", x.turn(1, 1), Checks.ALL);
        due("with a hole that stays", x.turn(2, -1), Checks.set(23));
        due("turns", x.count(8), 3);
        due("turned by", x.ticket(0, 8), 1);
        due("turned by", x.ticket(2, 8), -1);
        due("undo()", x.undo(), 3);
        due("turns", x.count(8), 2);
    }

    // "all its holes, and all its due ones"
    private static void turnOfForgedAndClosedHoles() {
        HoleTickets x = new HoleTickets();
        x.sell(Checks.set(23));
        x.forge(0, 23, false);
        due("no hole", x.turn(0, 1), 0);
        due("the due one is turned", x.ticket(0, 1), Checks.set(0));
        x.forge(0, 5, true);
        due("the forged one", x.turn(0, -6), Checks.set(23));
        due("forged", x.ticket(0, 2), Checks.set(23));
        due("closed", x.ticket(0, 3), Checks.set(18));
        due("mend(0)", x.mend(0), 2);
        due("holes", x.ticket(0, 0), Checks.set(18));
    }

    // "NONE if it is so already"
    private static void stackThatIsNone() {
        CHECKS.refused(Checks::someState, "stack(0, true)", x -> x.stack(0, true), NONE);
        CHECKS.refused(Checks::someState, "stack(1, false)", x -> x.stack(1, false), NONE);
        CHECKS.refused(TicketEdgesTest::full, "stack(11, false), none at first", x -> x.stack(11, false), NONE);
        CHECKS.refused(TicketEdgesTest::fullStack, "stack(11, true), all on it", x -> x.stack(11, true), NONE);
    }

    // "Returns how many tickets are on it then": from none to all, and back to none
    private static void stackOfFirstAndLast() {
        HoleTickets x = full();
        for (int ticket = 0; ticket < 12; ticket++) {
            due("stack(" + ticket + ", true)", x.stack(ticket, true), ticket + 1);
        }
        for (int ticket = 0; ticket < 12; ticket++) {
            due("stack(" + ticket + ", false)", x.stack(ticket, false), 11 - ticket);
        }
        due("none is on it", x.count(1), 0);
        due("stack(11, true)", x.stack(11, true), 1);
        due("the last one alone", x.ticket(11, 7), 1);
        due("not the first", x.ticket(0, 7), 0);
    }

    // "Returns how many tickets; BAD_VALUE; NONE .."
    private static void turnStackOutOfRange() {
        for (int power : NO_POWERS) {
            CHECKS.refused(Checks::someState, "turnStack(" + power + ")", x -> x.turnStack(power), BAD_VALUE);
            CHECKS.refused(HoleTickets::new, "turnStack(" + power + ") of none", x -> x.turnStack(power), BAD_VALUE);
        }
        CHECKS.refused(Checks::someState, "turnStack(10008)", x -> x.turnStack(10008), BAD_VALUE);
    }

    // "NONE if none is on it, or each place would be sent to itself"
    private static void turnStackThatIsNone() {
        CHECKS.refused(HoleTickets::new, "turnStack(1) without tickets", x -> x.turnStack(1), NONE);
        CHECKS.refused(TicketEdgesTest::full, "turnStack(1) of none", x -> x.turnStack(1), NONE);
        for (int power : new int[] {0, 12, -12, 9996, -9996}) {
            CHECKS.refused(Checks::someState, "turnStack(" + power + ")", x -> x.turnStack(power), NONE);
        }
        for (int power : new int[] {-9999, 1, 9999}) {
            CHECKS.refused(() -> {
                HoleTickets x = still();
                x.sell(1);
                x.stack(0, true);
                return x;
            }, "turnStack(" + power + ") when all stay", x -> x.turnStack(power), NONE);
        }
    }

    // "Turns all tickets on the stack by the same power", no other one; "-9999 to 9999", both of them in the range
    private static void turnStackOfOneAndAll() {
        HoleTickets x = full();
        x.stack(11, true);
        due("turnStack(9999)", x.turnStack(9999), 1);
        due("the one on it", x.ticket(11, 0), Checks.set(2, 14));
        due("another", x.ticket(0, 0), Checks.set(0, 23));
        due("turns", x.count(8), 1);
        for (int ticket = 0; ticket < 11; ticket++) {
            x.stack(ticket, true);
        }
        due("turnStack(-9999)", x.turnStack(-9999), 12);
        due("turns", x.count(8), 13);
        due("the first", x.ticket(0, 0), Checks.set(9, 8));
        due("the last, over the last place and back", x.ticket(11, 0), Checks.set(11, 23));
        due("powers of the first", x.ticket(0, 8), -9999);
        due("powers of the last", x.ticket(11, 8), 0);
        due("one state for all", x.undo(), 3);
        due("turns", x.count(8), 1);
        due("the first", x.ticket(0, 0), Checks.set(0, 23));
    }

    // "what: 0 .. 8"; "Returns the number (8 may be below 0); UNKNOWN; BAD_VALUE"
    private static void ticketOfBadWhat() {
        for (int what : new int[] {-1, 9, 32, Integer.MIN_VALUE, Integer.MAX_VALUE}) {
            CHECKS.refused(Checks::someState, "ticket(0, " + what + ")", x -> x.ticket(0, what), BAD_VALUE);
            CHECKS.refused(Checks::someState, "ticket(3, " + what + ")", x -> x.ticket(3, what), UNKNOWN);
        }
    }

    // "0 for its holes, 1 for its due ones, 2 for those that are not due, 3 for due ones that it has not .."
    private static void ticketOfNoneAndAllHoles() {
        HoleTickets x = new HoleTickets();
        x.sell(0);
        x.sell(Checks.ALL);
        for (int what = 0; what <= 8; what++) {
            due("without holes: ticket(0, " + what + ")", x.ticket(0, what), what == 6 ? 1 : 0);
        }
        int[] told = {Checks.ALL, Checks.ALL, 0, 0, 24, 0, 1, 0, 0};
        for (int what = 0; what <= 8; what++) {
            due("with all holes: ticket(1, " + what + ")", x.ticket(1, what), told[what]);
        }
    }

    // "6 for the least number of moves, 1 or more, behind which its holes are as they are"
    private static void ticketOfLeastAndMostMoves() {
        HoleTickets x = new HoleTickets();
        x.sell(Checks.set(23));
        x.sell(Checks.set(0, 12));
        x.sell(0x555555);
        due("the whole round", x.ticket(0, 6), 24);
        due("half of it", x.ticket(1, 6), 12);
        due("each second place", x.ticket(2, 6), 2);
        x.punch(2, 1);
        due("and one more", x.ticket(2, 6), 24);
        HoleTickets all = still();
        all.sell(Checks.set(3));
        due("when all stay", all.ticket(0, 6), 1);
        HoleTickets far = Checks.withMove("(0,1,2,3,4)(5,6,7)(8,9,10,11,12,13,14,15)(16,17,18,19,20,21,22)");
        far.sell(Checks.set(0, 5, 8, 16));
        far.sell(Checks.set(0, 5, 16, 23));
        due("the greatest order", far.ticket(0, 6), 840);
        due("no hole in one of the rounds", far.ticket(1, 6), 105);
        far.forge(0, 8, false);
        due("holes tell, not due ones", far.ticket(0, 6), 105);
    }

    // "8 for all powers by which it was turned so far, together"; "(8 may be below 0)"; what is NONE turns nothing
    private static void ticketOfPowersTogether() {
        HoleTickets x = new HoleTickets();
        x.sell(1);
        x.stack(0, true);
        x.turn(0, -1);
        due("below 0", x.ticket(0, 8), -1);
        x.turnStack(2);
        due("both kinds of turns", x.ticket(0, 8), 1);
        x.turn(0, -1);
        due("together 0", x.ticket(0, 8), 0);
        due("turn(0, 24)", x.turn(0, 24), NONE);
        due("not counted", x.ticket(0, 8), 0);
        x.turn(0, 25);
        due("not taken by the order", x.ticket(0, 8), 25);
        for (int turns = 0; turns < 480; turns++) {
            x.turn(0, -9999);
        }
        due("far below 0", x.ticket(0, 8), 25 - 480 * 9999);
        due("turns", x.count(8), 484);
    }
}
