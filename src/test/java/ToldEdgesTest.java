import java.util.function.Supplier;

/** The boundary cases of promises 22 to 28; each test quotes its sentence. */
final class ToldEdgesTest {
    private static final Checks CHECKS = new Checks("ToldEdgesTest");
    private static final int UNKNOWN = HoleTickets.UNKNOWN;
    private static final int BAD_VALUE = HoleTickets.BAD_VALUE;
    private static final int NOT_POSSIBLE = HoleTickets.NOT_POSSIBLE;
    private static final int NONE = HoleTickets.NONE;
    private static final String GREATEST_ORDER = "(0,1,2,3,4)(5,6,7)(8,9,10,11,12,13,14,15)(16,17,18,19,20,21,22)";
    /** In someState(), where three are sold; 32 would be the ticket 0 for a shift, which looks at five bits alone. */
    private static final int[] NO_TICKETS = {-1, 3, 12, 31, 32, -32, Integer.MIN_VALUE, Integer.MAX_VALUE};
    private static final int[] NO_PAIR = {-1, 2, 32, Integer.MIN_VALUE, Integer.MAX_VALUE};

    public static void main(String[] args) {
        ticketsOutOfRange();
        ticketsAtTheirEnds();
        alikeNow();
        alikeNever();
        alikeInTheMostMoves();
        alikeOverTheLastPlace();
        alikeWhenAllStay();
        meetsNow();
        meetsNever();
        meetsInTheMostMoves();
        meetsWhenAllStay();
        reasonThatIsFirst();
        reasonOfNoneAndAllHoles();
        holesTellNotDueOnes();
        kinOfItselfAlone();
        kinOfAllTickets();
        lightOfNoTicket();
        lightOfOneAndAllTickets();
        bestTurnOfRefusedCalls();
        bestTurnAlone();
        bestTurnInTheDark();
        bestTurnOfEqualPowers();
        bestTurnAtTheGreatestPower();
        bestTurnWhenAllStay();
        countOfBadWhat();
        countsOfNone();
        countsOfMost();
        CHECKS.finish();
    }

    private static void due(String call, long got, long want) {
        CHECKS.due(call, got, want);
    }

    private static HoleTickets withTickets(String move, int... tickets) {
        HoleTickets x = move.isEmpty() ? new HoleTickets() : Checks.withMove(move);
        for (int holes : tickets) {
            x.sell(holes);
        }
        return x;
    }

    private static HoleTickets still(int... tickets) {
        HoleTickets x = withTickets("(0,1)", tickets);
        x.exchange(0, 1);
        return x;
    }

    private static HoleTickets stacked(HoleTickets x) {
        for (int ticket = 0; ticket < x.count(0); ticket++) {
            x.stack(ticket, true);
        }
        return x;
    }

    // "UNKNOWN (ticket or other)": ahead of every other answer, also when both are the same
    private static void ticketsOutOfRange() {
        for (int ticket : NO_TICKETS) {
            String name = "(" + ticket + ", ..)";
            CHECKS.refused(Checks::someState, "alikeIn" + name, x -> x.alikeIn(ticket, 0), UNKNOWN);
            CHECKS.refused(Checks::someState, "alikeIn, other" + name, x -> x.alikeIn(0, ticket), UNKNOWN);
            CHECKS.refused(Checks::someState, "alikeIn, both" + name, x -> x.alikeIn(ticket, ticket), UNKNOWN);
            CHECKS.refused(Checks::someState, "meetsIn" + name, x -> x.meetsIn(ticket, 0), UNKNOWN);
            CHECKS.refused(Checks::someState, "meetsIn, other" + name, x -> x.meetsIn(0, ticket), UNKNOWN);
            CHECKS.refused(Checks::someState, "meetsIn, both" + name, x -> x.meetsIn(ticket, ticket), UNKNOWN);
            CHECKS.refused(Checks::someState, "reason" + name, x -> x.reason(ticket, 0), UNKNOWN);
            CHECKS.refused(Checks::someState, "reason, other" + name, x -> x.reason(0, ticket), UNKNOWN);
            CHECKS.refused(Checks::someState, "reason, both" + name, x -> x.reason(ticket, ticket), UNKNOWN);
            CHECKS.refused(Checks::someState, "kin" + name, x -> x.kin(ticket), UNKNOWN);
            CHECKS.refused(Checks::someState, "bestTurn" + name, x -> x.bestTurn(ticket, 0), UNKNOWN);
            CHECKS.refused(Checks::someState, "bestTurn, bad what" + name, x -> x.bestTurn(ticket, 2), UNKNOWN);
        }
        Supplier<HoleTickets> none = HoleTickets::new;
        CHECKS.refused(none, "alikeIn(0, 0) without tickets", x -> x.alikeIn(0, 0), UNKNOWN);
        CHECKS.refused(none, "meetsIn(0, 0) without tickets", x -> x.meetsIn(0, 0), UNKNOWN);
        CHECKS.refused(none, "reason(0, 0) without tickets", x -> x.reason(0, 0), UNKNOWN);
        CHECKS.refused(none, "kin(0) without tickets", x -> x.kin(0), UNKNOWN);
        CHECKS.refused(none, "bestTurn(0, 0) without tickets", x -> x.bestTurn(0, 0), UNKNOWN);
    }

    // "At most 12 tickets are sold ever, numbered from 0": 0 and 11 are asked, 12 is none
    private static void ticketsAtTheirEnds() {
        HoleTickets x = stacked(withTickets("", 1, 0, 0, 0, 0, 0, 0, 0, 0, 0, 0, 1 << 23));
        due("alikeIn(0, 11)", x.alikeIn(0, 11), 23);
        due("alikeIn(11, 0)", x.alikeIn(11, 0), 1);
        due("meetsIn(0, 11)", x.meetsIn(0, 11), 23);
        due("reason(11, 0)", x.reason(11, 0), 0);
        due("kin(11)", x.kin(11), Checks.set(0, 11));
        due("bestTurn(11, 0)", x.bestTurn(11, 0), 0);
        due("alikeIn(0, 12)", x.alikeIn(0, 12), UNKNOWN);
        due("meetsIn(12, 0)", x.meetsIn(12, 0), UNKNOWN);
        due("reason(0, 12)", x.reason(0, 12), UNKNOWN);
        due("kin(12)", x.kin(12), UNKNOWN);
        due("bestTurn(12, 0)", x.bestTurn(12, 0), UNKNOWN);
    }

    // "Returns how many, 0 if they are now"
    private static void alikeNow() {
        HoleTickets x = withTickets("", Checks.set(0, 23), Checks.set(0, 23), 0, 0, Checks.ALL, Checks.ALL);
        due("itself", x.alikeIn(0, 0), 0);
        due("another with these holes", x.alikeIn(0, 1), 0);
        due("both without holes", x.alikeIn(2, 3), 0);
        due("both with all holes", x.alikeIn(5, 4), 0);
    }

    // "NONE if they never would be"
    private static void alikeNever() {
        Supplier<HoleTickets> state = () -> withTickets("(0,1,2)", 0, Checks.ALL, Checks.set(0, 5), Checks.set(1, 6));
        CHECKS.refused(state, "none and all", x -> x.alikeIn(0, 1), NONE);
        CHECKS.refused(state, "all and none", x -> x.alikeIn(1, 0), NONE);
        CHECKS.refused(state, "some and none", x -> x.alikeIn(2, 0), NONE);
        CHECKS.refused(state, "another round", x -> x.alikeIn(2, 3), NONE);
    }

    // "in how many moves": the least number, up to the order less 1
    private static void alikeInTheMostMoves() {
        HoleTickets x = withTickets(GREATEST_ORDER, Checks.set(0, 5, 8, 16), Checks.set(4, 7, 15, 22));
        due("one move less than the order", x.alikeIn(0, 1), 839);
        due("the other way round", x.alikeIn(1, 0), 1);
        HoleTickets often = withTickets("", 0x555555, 0xAAAAAA);
        due("the least of twelve numbers", often.alikeIn(0, 1), 1);
    }

    // "of another one (which is not turned)": the first one moves, from 23 on to 0
    private static void alikeOverTheLastPlace() {
        HoleTickets x = withTickets("", Checks.set(22, 23), Checks.set(0, 1));
        due("alikeIn(0, 1)", x.alikeIn(0, 1), 2);
        due("alikeIn(1, 0)", x.alikeIn(1, 0), 22);
        x.reverse();
        due("on the way back", x.alikeIn(1, 0), 2);
    }

    // "NONE if they never would be", by a move of the order 1
    private static void alikeWhenAllStay() {
        HoleTickets x = still(Checks.set(0), Checks.set(1), Checks.set(0));
        due("alikeIn(0, 2)", x.alikeIn(0, 2), 0);
        due("alikeIn(0, 1)", x.alikeIn(0, 1), NONE);
        due("kin(0)", x.kin(0), Checks.set(0, 2));
        due("reason(0, 1)", x.reason(0, 1), 2);
    }

    // "Returns how many, 0 if it has now"
    private static void meetsNow() {
        HoleTickets x = withTickets("", Checks.set(0, 23), Checks.set(5, 23), Checks.set(0), Checks.ALL);
        due("itself", x.meetsIn(0, 0), 0);
        due("place 23", x.meetsIn(0, 1), 0);
        due("place 0", x.meetsIn(2, 0), 0);
        due("all", x.meetsIn(2, 3), 0);
    }

    // "NONE if it never would": also a ticket and itself, when it has no hole
    private static void meetsNever() {
        Supplier<HoleTickets> state = () -> withTickets("(0,1,2)", 0, Checks.ALL, Checks.set(0, 5), Checks.set(6, 23));
        CHECKS.refused(state, "itself without holes", x -> x.meetsIn(0, 0), NONE);
        CHECKS.refused(state, "none and all", x -> x.meetsIn(0, 1), NONE);
        CHECKS.refused(state, "all and none", x -> x.meetsIn(1, 0), NONE);
        CHECKS.refused(state, "other rounds", x -> x.meetsIn(2, 3), NONE);
    }

    // "in how many moves": the least number, up to the places of the longest round less 1
    private static void meetsInTheMostMoves() {
        HoleTickets x = withTickets("", Checks.set(0), Checks.set(23), Checks.set(11, 23));
        due("23 moves", x.meetsIn(0, 1), 23);
        due("one move, from 23 to 0", x.meetsIn(1, 0), 1);
        due("the nearest of two", x.meetsIn(0, 2), 11);
        HoleTickets far = withTickets(GREATEST_ORDER, Checks.set(0, 8, 23), Checks.set(15, 22));
        due("the only round in which both have holes", far.meetsIn(0, 1), 7);
    }

    // "NONE if it never would", by a move of the order 1
    private static void meetsWhenAllStay() {
        HoleTickets x = still(Checks.set(0, 23), Checks.set(1, 23), Checks.set(0));
        due("meetsIn(0, 1)", x.meetsIn(0, 1), 0);
        due("meetsIn(0, 2)", x.meetsIn(0, 2), 0);
        due("meetsIn(1, 2)", x.meetsIn(1, 2), NONE);
    }

    // "Returns 0 if it is, or would be; the first that holds: 1 .., 2 .., 3 .."
    private static void reasonThatIsFirst() {
        HoleTickets x = withTickets("(0,1,2,3)(4,5,6,7,8,9)(10,11)", Checks.set(0, 4), Checks.set(0, 4), Checks.set(1, 5),
            Checks.set(0, 4, 5), Checks.set(0, 1), Checks.set(0, 5), Checks.set(0, 10), Checks.set(23));
        due("it is", x.reason(0, 1), 0);
        due("it would be", x.reason(0, 2), 0);
        due("itself", x.reason(7, 7), 0);
        due("unlike numbers, in all and in a round", x.reason(0, 3), 1);
        due("unlike numbers, the other way round", x.reason(3, 0), 1);
        due("unlike numbers in some rounds alone", x.reason(0, 4), 2);
        due("in rounds where one has none", x.reason(0, 6), 2);
        due("no number of moves serves", x.reason(0, 5), 3);
        due("no number of moves serves, the other way round", x.reason(5, 0), 3);
    }

    // "unlike numbers of holes": none, and all
    private static void reasonOfNoneAndAllHoles() {
        HoleTickets x = withTickets("", 0, Checks.ALL, 0, Checks.ALL, Checks.ALL - 1, Checks.set(23));
        due("none and none", x.reason(0, 2), 0);
        due("all and all", x.reason(1, 3), 0);
        due("none and all", x.reason(0, 1), 1);
        due("all but one, and all", x.reason(4, 1), 1);
        due("one and none", x.reason(5, 0), 1);
        due("one round, unlike distances", withTickets("", Checks.set(0, 1), Checks.set(0, 2)).reason(0, 1), 3);
    }

    // "Holes that are forged, and holes that are closed by fraud, change the holes of a ticket, but not its due ones"
    private static void holesTellNotDueOnes() {
        HoleTickets x = withTickets("", Checks.set(0), Checks.set(5));
        x.forge(0, 23, true);
        due("one more: reason(0, 1)", x.reason(0, 1), 1);
        due("one more: reason(1, 0)", x.reason(1, 0), 1);
        due("the way from 0: meetsIn(0, 1)", x.meetsIn(0, 1), 5);
        due("the way to 23: meetsIn(1, 0)", x.meetsIn(1, 0), 18);
        x.forge(0, 0, false);
        due("as many again: reason(0, 1)", x.reason(0, 1), 0);
        due("reason(1, 0)", x.reason(1, 0), 0);
        due("alikeIn(0, 1)", x.alikeIn(0, 1), 6);
        due("alikeIn(1, 0)", x.alikeIn(1, 0), 18);
        due("meetsIn(0, 1)", x.meetsIn(0, 1), 6);
        due("kin(1)", x.kin(1), 3);
        stacked(x);
        due("bestTurn(0, 0)", x.bestTurn(0, 0), 6);
        due("bestTurn(0, 1)", x.bestTurn(0, 1), 1);
        due("bestTurn(1, 0)", x.bestTurn(1, 0), 18);
        due("bestTurn(1, 1)", x.bestTurn(1, 1), 1);
        x.forge(0, 23, false);
        due("none: reason(0, 1)", x.reason(0, 1), 1);
        due("none: alikeIn(1, 0)", x.alikeIn(1, 0), NONE);
        due("none: meetsIn(1, 0)", x.meetsIn(1, 0), NONE);
        due("none: bestTurn(0, 1)", x.bestTurn(0, 1), 0);
        due("none: kin(0)", x.kin(0), 1);
    }

    // "Returns the tickets, itself among them, as a set"
    private static void kinOfItselfAlone() {
        HoleTickets x = withTickets("", 0);
        due("the only one, without holes", x.kin(0), 1);
        HoleTickets other = withTickets("", Checks.set(0, 1), Checks.set(0, 2), Checks.ALL, 0);
        due("kin(0)", other.kin(0), 1);
        due("kin(1)", other.kin(1), 2);
        due("kin(2)", other.kin(2), 4);
        due("kin(3), and none of those that were not sold", other.kin(3), 8);
    }

    // "the tickets that are like a ticket, or would be behind some moves": up to all twelve
    private static void kinOfAllTickets() {
        HoleTickets x = new HoleTickets();
        HoleTickets none = new HoleTickets();
        for (int ticket = 0; ticket < 12; ticket++) {
            x.sell(Checks.set(ticket * 2, (ticket * 2 + 23) % 24));
            none.sell(0);
        }
        due("kin(0)", x.kin(0), 4095);
        due("kin(11)", x.kin(11), 4095);
        due("without holes: kin(0)", none.kin(0), 4095);
        due("without holes: kin(11)", none.kin(11), 4095);
        x.forge(11, 0, true);
        due("one less", x.kin(0), 2047);
        due("that one", x.kin(11), 2048);
    }

    // "Light falls through a place if each ticket on the stack has a hole there, and there is a ticket on it"
    private static void lightOfNoTicket() {
        HoleTickets x = new HoleTickets();
        due("no ticket at all", x.light(), 0);
        x.sell(Checks.ALL);
        due("none on the stack", x.light(), 0);
        due("count(5)", x.count(5), 0);
        x.stack(0, true);
        due("one on the stack", x.light(), Checks.ALL);
        due("count(5)", x.count(5), 24);
        x.stack(0, false);
        due("none on the stack", x.light(), 0);
        due("count(5)", x.count(5), 0);
    }

    // "each ticket on the stack": one, all twelve, and one without the hole
    private static void lightOfOneAndAllTickets() {
        HoleTickets x = new HoleTickets();
        for (int ticket = 0; ticket < 12; ticket++) {
            x.sell(Checks.set(0, 23, ticket + 1));
        }
        x.stack(11, true);
        due("the last one", x.light(), Checks.set(0, 12, 23));
        stacked(x);
        due("all", x.light(), Checks.set(0, 23));
        x.forge(11, 23, false);
        due("one place less", x.light(), Checks.set(0));
        x.forge(0, 0, false);
        due("none", x.light(), 0);
        due("count(5)", x.count(5), 0);
    }

    // "UNKNOWN; BAD_VALUE; NOT_POSSIBLE if it is not on the stack", in this order
    private static void bestTurnOfRefusedCalls() {
        for (int what : NO_PAIR) {
            CHECKS.refused(Checks::someState, "bestTurn(0, " + what + ")", x -> x.bestTurn(0, what), BAD_VALUE);
            CHECKS.refused(Checks::someState, "bestTurn(1, " + what + "), off", x -> x.bestTurn(1, what), BAD_VALUE);
            CHECKS.refused(Checks::someState, "bestTurn(3, " + what + ")", x -> x.bestTurn(3, what), UNKNOWN);
        }
        CHECKS.refused(Checks::someState, "bestTurn(1, 0), off", x -> x.bestTurn(1, 0), NOT_POSSIBLE);
        CHECKS.refused(Checks::someState, "bestTurn(2, 1), off", x -> x.bestTurn(2, 1), NOT_POSSIBLE);
    }

    // "so that light falls through the most places", when no other ticket is on the stack
    private static void bestTurnAlone() {
        HoleTickets x = withTickets("", Checks.set(3, 23), 0, Checks.ALL);
        for (int ticket = 0; ticket < 3; ticket++) {
            int holes = x.ticket(ticket, 4);
            x.stack(ticket, true);
            due("bestTurn(" + ticket + ", 0)", x.bestTurn(ticket, 0), 0);
            due("bestTurn(" + ticket + ", 1)", x.bestTurn(ticket, 1), holes);
            x.stack(ticket, false);
        }
    }

    // "the most places": none, by whatever power
    private static void bestTurnInTheDark() {
        HoleTickets x = stacked(withTickets("(0,1,2)", Checks.set(0, 1, 2), Checks.set(5, 6)));
        due("bestTurn(0, 0)", x.bestTurn(0, 0), 0);
        due("bestTurn(0, 1)", x.bestTurn(0, 1), 0);
        due("bestTurn(1, 0)", x.bestTurn(1, 0), 0);
        due("bestTurn(1, 1)", x.bestTurn(1, 1), 0);
        HoleTickets empty = stacked(withTickets("", Checks.ALL, 0));
        due("one without holes: power", empty.bestTurn(0, 0), 0);
        due("one without holes: places", empty.bestTurn(0, 1), 0);
        due("itself without holes: places", empty.bestTurn(1, 1), 0);
    }

    // "Finds the least power from 0 on"
    private static void bestTurnOfEqualPowers() {
        HoleTickets x = stacked(withTickets("", Checks.set(0), Checks.set(7, 13, 23)));
        due("the least of three", x.bestTurn(0, 0), 7);
        due("places", x.bestTurn(0, 1), 1);
        due("from 0 on, over the last place", x.bestTurn(1, 0), 1);
        HoleTickets now = stacked(withTickets("", Checks.set(0, 1), Checks.set(0, 1, 12, 13)));
        due("as it is", now.bestTurn(0, 0), 0);
        due("places", now.bestTurn(0, 1), 2);
        HoleTickets later = stacked(withTickets("", Checks.set(0, 1), Checks.set(0, 12, 13)));
        due("more, though some light falls now", later.bestTurn(0, 0), 12);
        due("places", later.bestTurn(0, 1), 2);
        due("nothing is turned", later.light(), Checks.set(0));
    }

    // "the least power from 0 on", up to the order less 1
    private static void bestTurnAtTheGreatestPower() {
        HoleTickets x = stacked(withTickets(GREATEST_ORDER, Checks.set(0, 5, 8, 16), Checks.set(4, 7, 15, 22)));
        due("power", x.bestTurn(0, 0), 839);
        due("places", x.bestTurn(0, 1), 4);
        due("power of the other", x.bestTurn(1, 0), 1);
        due("turn(0, 839)", x.turn(0, 839), Checks.set(4, 7, 15, 22));
        due("light falls so", x.count(5), 4);
        due("as it is", x.bestTurn(0, 0), 0);
    }

    // "from 0 on", by a move of the order 1
    private static void bestTurnWhenAllStay() {
        HoleTickets x = stacked(still(Checks.set(0, 23), Checks.set(1, 23)));
        due("power", x.bestTurn(0, 0), 0);
        due("places", x.bestTurn(0, 1), 1);
    }

    // "what: 0 .. 10"; "Returns the number; BAD_VALUE"
    private static void countOfBadWhat() {
        for (int what : new int[] {-1, 11, 32, Integer.MIN_VALUE, Integer.MAX_VALUE}) {
            CHECKS.refused(Checks::someState, "count(" + what + ")", x -> x.count(what), BAD_VALUE);
        }
    }

    // "Creates a machine without tickets"
    private static void countsOfNone() {
        HoleTickets x = new HoleTickets();
        for (int what = 0; what <= 10; what++) {
            due("count(" + what + ") of a new object", x.count(what), 0);
        }
    }

    // "0 for tickets, 1 for those on the stack, 2 for false ones, 3 for holes of all tickets, 4 for due ones of all .."
    private static void countsOfMost() {
        HoleTickets x = new HoleTickets();
        for (int ticket = 0; ticket < 12; ticket++) {
            x.sell(Checks.ALL);
        }
        stacked(x);
        x.turnStack(1);
        for (int length = 0; length < 80; length++) {
            x.type('(');
        }
        dueCounts(x, 12, 12, 0, 288, 288, 24, 288, 0, 12, 4, 80);
        for (int ticket = 0; ticket < 12; ticket++) {
            x.forge(ticket, 23 - ticket, false);
        }
        dueCounts(x, 12, 12, 12, 276, 288, 12, 288, 12, 12, 4, 80);
        for (int ticket = 0; ticket < 12; ticket++) {
            x.punch(ticket, 23 - ticket);
        }
        dueCounts(x, 12, 12, 0, 288, 288, 24, 300, 12, 12, 4, 80);
    }

    private static void dueCounts(HoleTickets x, int... counts) {
        for (int what = 0; what < counts.length; what++) {
            due("count(" + what + ")", x.count(what), counts[what]);
        }
    }
}
