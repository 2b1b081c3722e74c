/** The boundary cases of the terms of the move, and of promises 1 to 4 and 18 to 20; each test quotes its sentence. */
final class MoveEdgesTest {
    private static final Checks CHECKS = new Checks("MoveEdgesTest");
    private static final int UNKNOWN = HoleTickets.UNKNOWN;
    private static final int BAD_VALUE = HoleTickets.BAD_VALUE;
    private static final int NONE = HoleTickets.NONE;
    /** 32 and 55 would be the places 0 and 23 for a shift, which looks at five bits alone. */
    private static final int[] NO_PLACES = {-1, 24, 25, 31, 32, 55, -9, -32, 256, Integer.MIN_VALUE, Integer.MAX_VALUE};
    private static final String GREATEST_ORDER = "(0,1,2,3,4)(5,6,7)(8,9,10,11,12,13,14,15)(16,17,18,19,20,21,22)";
    private static final String ALL_PAIRS = "(0,1)(2,3)(4,5)(6,7)(8,9)(10,11)(12,13)(14,15)(16,17)(18,19)(20,21)(22,23)";
    private static final String ONE_ROUND = "(23,22,21,20,19,18,17,16,15,14,13,12,11,10,9,8,7,6,5,4,3,2,1,0)";

    public static void main(String[] args) {
        placesOutOfRange();
        lowestAndHighestPlace();
        wayOverTheLastPlace();
        placeSentToItself();
        noTwoPlacesToTheSame();
        leastAndGreatestOrder();
        exchangeOfRefusedPlaces();
        exchangeOfNeighbours();
        exchangeThatPartsAndJoinsRounds();
        reverseThatIsNone();
        reverseOfLeastOrder();
        reverseOfOneRound();
        readMoveOfRefusedTexts();
        readMoveOfShortestAndLongest();
        readMoveSendsOthersToThemselves();
        readMoveOfTheSameText();
        placeOfBadWhat();
        placeOfWidestAndNarrowestRound();
        placeOfNoneAndAllTickets();
        moveOfBadWhat();
        moveOfNoExchange();
        moveOfLongestRound();
        powerZeroAndOrder();
        powerAtItsEnds();
        powerBelowZeroIsTheWayBack();
        powerOutOfRange();
        CHECKS.finish();
    }

    private static void due(String call, long got, long want) {
        CHECKS.due(call, got, want);
    }

    private static HoleTickets still() {
        HoleTickets x = Checks.withMove("(0,1)");
        x.exchange(0, 1);
        return x;
    }

    // "A ticket has 24 places, 0 to 23"; "UNKNOWN: There is no such ticket or place"
    private static void placesOutOfRange() {
        for (int place : NO_PLACES) {
            CHECKS.refused(Checks::someState, "exchange(" + place + ", 0)", x -> x.exchange(place, 0), UNKNOWN);
            CHECKS.refused(Checks::someState, "exchange(23, " + place + ")", x -> x.exchange(23, place), UNKNOWN);
            CHECKS.refused(Checks::someState, "punch(0, " + place + ")", x -> x.punch(0, place), UNKNOWN);
            CHECKS.refused(Checks::someState, "forge(0, " + place + ", true)", x -> x.forge(0, place, true), UNKNOWN);
            CHECKS.refused(Checks::someState, "forge(0, " + place + ", false)", x -> x.forge(0, place, false), UNKNOWN);
            CHECKS.refused(Checks::someState, "power(" + place + ", 1)", x -> x.power(place, 1), UNKNOWN);
            for (int what = 0; what <= 4; what++) {
                int told = what;
                CHECKS.refused(Checks::someState, "place(" + place + ", " + what + ")", x -> x.place(place, told), UNKNOWN);
            }
        }
    }

    // "0 to 23", both of them in the range
    private static void lowestAndHighestPlace() {
        HoleTickets x = new HoleTickets();
        due("sell(0)", x.sell(0), 0);
        due("punch(0, 0)", x.punch(0, 0), 1);
        due("punch(0, 23)", x.punch(0, 23), 2);
        due("2 to the power 0 and 2 to the power 23", x.ticket(0, 0), 8388609);
        due("forge(0, 0, false)", x.forge(0, 0, false), 1);
        due("forge(0, 23, false)", x.forge(0, 23, false), 1);
        due("no hole", x.ticket(0, 0), 0);
        due("both are due", x.ticket(0, 3), 8388609);
        due("exchange(0, 23)", x.exchange(0, 23), 23);
        due("0 is sent to itself", x.place(0, 0), 0);
        due("23 is sent to", x.place(23, 0), 1);
        due("power(23, 23)", x.power(23, 23), 23);
        due("power(0, 1)", x.power(0, 1), 0);
    }

    // "at first it sends the place p to p + 1, and 23 to 0"
    private static void wayOverTheLastPlace() {
        HoleTickets x = new HoleTickets();
        due("place(22, 0)", x.place(22, 0), 23);
        due("place(23, 0)", x.place(23, 0), 0);
        due("place(0, 1)", x.place(0, 1), 23);
        due("place(0, 0)", x.place(0, 0), 1);
        due("power(23, 1)", x.power(23, 1), 0);
        due("power(0, -1)", x.power(0, -1), 23);
        due("power(1, 23)", x.power(1, 23), 0);
    }

    // "a place that is sent to itself is a round by itself"
    private static void placeSentToItself() {
        HoleTickets x = new HoleTickets();
        due("exchange(4, 5)", x.exchange(4, 5), 23);
        due("5 is sent to", x.place(5, 0), 5);
        due("5 comes from", x.place(5, 1), 5);
        due("places of its round", x.place(5, 2), 1);
        due("lowest of its round", x.place(5, 3), 5);
        due("rounds", x.move(1), 2);
        due("places sent to themselves", x.move(2), 1);
        due("power(5, 9999)", x.power(5, 9999), 5);
    }

    // "The move sends each place to a place, no two to the same one"
    private static void noTwoPlacesToTheSame() {
        HoleTickets x = new HoleTickets();
        for (int place = 0; place < 24; place++) {
            x.exchange(place, (place * 7 + 5) % 24);
            x.exchange(23 - place, place);
        }
        int reached = 0;
        for (int place = 0; place < 24; place++) {
            reached |= 1 << x.place(place, 0);
            due("from " + place + " and back", x.place(x.place(place, 0), 1), place);
        }
        due("all places are reached", reached, Checks.ALL);
    }

    // "The order of the move is the least number of moves, 1 or more, behind which each place is where it was"
    private static void leastAndGreatestOrder() {
        due("all stay", still().move(0), 1);
        due("one pair", Checks.withMove("(0,1)").move(0), 2);
        due("twelve pairs", Checks.withMove(ALL_PAIRS).move(0), 2);
        due("one round", Checks.withMove(ONE_ROUND).move(0), 24);
        due("the greatest", Checks.withMove(GREATEST_ORDER).move(0), 840);
        due("no product, rounds of 4 and 6", Checks.withMove("(0,1,2,3)(4,5,6,7,8,9)").move(0), 12);
        due("one round's length divides the other's", Checks.withMove("(0,1,2)(4,5,6,7,8,9)").move(0), 6);
    }

    // "Returns the order of the move then; UNKNOWN (one or other); NONE if both are the same": no error may apply for NONE
    private static void exchangeOfRefusedPlaces() {
        for (int place : NO_PLACES) {
            CHECKS.refused(Checks::someState, "exchange(both " + place + ")", x -> x.exchange(place, place), UNKNOWN);
        }
        for (int place = 0; place < 24; place++) {
            int same = place;
            CHECKS.refused(Checks::someState, "exchange(both " + place + ")", x -> x.exchange(same, same), NONE);
        }
        CHECKS.refused(MoveEdgesTest::still, "exchange(0, 0) when all stay", x -> x.exchange(0, 0), NONE);
    }

    // "Exchanges where two places are sent", when one of them is sent to the other
    private static void exchangeOfNeighbours() {
        HoleTickets x = Checks.withMove("(0,1)");
        due("a pair", x.exchange(1, 0), 1);
        due("0 stays", x.place(0, 0), 0);
        due("1 stays", x.place(1, 1), 1);
        due("a pair again", x.exchange(0, 1), 2);
        due("0 is sent to", x.place(0, 0), 1);
        due("0 comes from", x.place(0, 1), 1);
        HoleTickets last = new HoleTickets();
        due("the last and the first", last.exchange(23, 0), 23);
        due("0 stays", last.place(0, 0), 0);
        due("1 comes from", last.place(1, 1), 23);
    }

    // "Returns the order of the move then"
    private static void exchangeThatPartsAndJoinsRounds() {
        HoleTickets x = new HoleTickets();
        due("24 parted into 8 and 16", x.exchange(0, 8), 16);
        due("rounds", x.move(1), 2);
        due("16 parted into 13 and 3", x.exchange(0, 11), 312);
        due("joined to 16", x.exchange(11, 0), 16);
        due("joined to 24", x.exchange(8, 0), 24);
        HoleTickets fixed = still();
        due("two that stay are joined", fixed.exchange(22, 23), 2);
        due("22 is sent to", fixed.place(22, 0), 23);
        due("rounds", fixed.move(1), 23);
    }

    // "NONE if the way back is the move itself"
    private static void reverseThatIsNone() {
        CHECKS.refused(MoveEdgesTest::still, "reverse() when all stay", HoleTickets::reverse, NONE);
        CHECKS.refused(() -> Checks.withMove("(22,23)"), "reverse() of a pair", HoleTickets::reverse, NONE);
        CHECKS.refused(() -> Checks.withMove(ALL_PAIRS), "reverse() of twelve pairs", HoleTickets::reverse, NONE);
    }

    // "Returns the order of the move": the least orders whose way back is another move
    private static void reverseOfLeastOrder() {
        HoleTickets three = Checks.withMove("(21,22,23)");
        due("a round of three", three.reverse(), 3);
        due("23 is sent to", three.place(23, 0), 22);
        due("21 is sent to", three.place(21, 0), 23);
        HoleTickets four = Checks.withMove("(0,1,2,3)");
        due("a round of four", four.reverse(), 4);
        due("0 is sent to", four.place(0, 0), 3);
        HoleTickets six = Checks.withMove("(0,1,2)(3,4)");
        due("a round of three and a pair", six.reverse(), 6);
        due("3 is sent to", six.place(3, 0), 4);
        due("recorded", six.count(9), 2);
    }

    // "Takes the way back as the move", over the first and the last place; and back again
    private static void reverseOfOneRound() {
        HoleTickets x = new HoleTickets();
        due("reverse()", x.reverse(), 24);
        due("0 is sent to", x.place(0, 0), 23);
        due("23 comes from", x.place(23, 1), 0);
        due("1 is sent to", x.place(1, 0), 0);
        due("exchange(0, 1)", x.exchange(0, 1), 23);
        due("1 is sent to 23 then", x.place(1, 0), 23);
        due("undo()", x.undo(), 1);
        due("reverse() again", x.reverse(), 24);
        due("23 is sent to", x.place(23, 0), 0);
    }

    // "-100 minus the place of the fault of the text if it has one (which is an error)"
    private static void readMoveOfRefusedTexts() {
        CHECKS.refused(HoleTickets::new, "readMove() of the empty text", HoleTickets::readMove, -100);
        dueRefusedText("x", -100);
        dueRefusedText("(", -101);
        dueRefusedText("(1)", -102);
        dueRefusedText("(1,2", -104);
        dueRefusedText("(1,24", -104);
        dueRefusedText("(1,1)", -104);
        dueRefusedText("(0,1)(", -106);
        dueRefusedText(ALL_PAIRS + "x", -174);
        dueRefusedText(ALL_PAIRS + "(", -175);
        dueRefusedText(ALL_PAIRS + "(23,22)", -177);
    }

    private static void dueRefusedText(String text, int want) {
        CHECKS.refused(() -> {
            HoleTickets x = Checks.someState();
            Checks.type(x, text);
            return x;
        }, "readMove() of " + text, HoleTickets::readMove, want);
    }

    // "one or more rounds one behind the other; a round is "(", two or more places with "," between two, and ")""
    private static void readMoveOfShortestAndLongest() {
        HoleTickets x = new HoleTickets();
        Checks.type(x, "(0,1)");
        due("one round of two places", x.readMove(), 2);
        due("0 is sent to", x.place(0, 0), 1);
        due("1 is sent to", x.place(1, 0), 0);
        Checks.type(x, ONE_ROUND);
        due("one round of all places", x.readMove(), 24);
        due("23 is sent to", x.place(23, 0), 22);
        due("the last one is sent to the first", x.place(0, 0), 23);
        Checks.type(x, ALL_PAIRS);
        due("twelve rounds", x.readMove(), 2);
        due("rounds", x.move(1), 12);
        due("23 is sent to", x.place(23, 0), 22);
        due("the text stays", x.count(10), 74);
    }

    // "Places that are in no round are sent to themselves"
    private static void readMoveSendsOthersToThemselves() {
        HoleTickets x = Checks.withMove("(0,23,1,22)");
        Checks.type(x, "(1,22)");
        due("readMove()", x.readMove(), 2);
        for (int place = 0; place < 24; place++) {
            int other = place == 1 ? 22 : place == 22 ? 1 : place;
            due("place(" + place + ", 0)", x.place(place, 0), other);
            due("place(" + place + ", 1)", x.place(place, 1), other);
        }
        due("places sent to themselves", x.move(2), 22);
    }

    // "Takes the move of the text, which stays. This is an act": there is no NONE for a move that is the one there was
    private static void readMoveOfTheSameText() {
        HoleTickets x = new HoleTickets();
        Checks.type(x, "(0,1,2)");
        due("readMove()", x.readMove(), 3);
        due("readMove() again", x.readMove(), 3);
        due("both are recorded", x.count(9), 2);
        due("undo()", x.undo(), 1);
        due("the same move", x.move(0), 3);
        due("undo()", x.undo(), 0);
        due("the first move", x.move(0), 24);
        due("the text stays", x.readMove(), 3);
    }

    // "what: 0 .. 4"; "UNKNOWN; BAD_VALUE"
    private static void placeOfBadWhat() {
        for (int what : new int[] {-1, 5, 32, Integer.MIN_VALUE, Integer.MAX_VALUE}) {
            CHECKS.refused(Checks::someState, "place(0, " + what + ")", x -> x.place(0, what), BAD_VALUE);
            CHECKS.refused(Checks::someState, "place(23, " + what + ")", x -> x.place(23, what), BAD_VALUE);
            CHECKS.refused(Checks::someState, "place(24, " + what + ")", x -> x.place(24, what), UNKNOWN);
            CHECKS.refused(Checks::someState, "place(-1, " + what + ")", x -> x.place(-1, what), UNKNOWN);
        }
    }

    // "2 for the places of its round (how many), 3 for the lowest place of its round"
    private static void placeOfWidestAndNarrowestRound() {
        HoleTickets one = new HoleTickets();
        HoleTickets none = still();
        for (int place = 0; place < 24; place++) {
            due("one round: place(" + place + ", 2)", one.place(place, 2), 24);
            due("one round: place(" + place + ", 3)", one.place(place, 3), 0);
            due("all stay: place(" + place + ", 2)", none.place(place, 2), 1);
            due("all stay: place(" + place + ", 3)", none.place(place, 3), place);
        }
        HoleTickets high = Checks.withMove("(23,22)");
        due("the two highest places", high.place(23, 3), 22);
        due("how many", high.place(22, 2), 2);
    }

    // "4 for tickets that have a hole there, as a set"
    private static void placeOfNoneAndAllTickets() {
        HoleTickets x = new HoleTickets();
        due("no ticket", x.place(0, 4), 0);
        for (int ticket = 0; ticket < 12; ticket++) {
            x.sell(Checks.set(0, 23));
        }
        due("all tickets, place 0", x.place(0, 4), 4095);
        due("all tickets, place 23", x.place(23, 4), 4095);
        due("no ticket's place", x.place(12, 4), 0);
        x.forge(0, 12, true);
        due("the first ticket", x.place(12, 4), 1);
        x.forge(0, 12, false);
        x.forge(11, 12, true);
        due("the last ticket", x.place(12, 4), 2048);
    }

    // "what: 0 .. 4"; "Returns the number; BAD_VALUE"
    private static void moveOfBadWhat() {
        for (int what : new int[] {-1, 5, 32, Integer.MIN_VALUE, Integer.MAX_VALUE}) {
            CHECKS.refused(Checks::someState, "move(" + what + ")", x -> x.move(what), BAD_VALUE);
        }
    }

    // "4 for whether it can be made by an even number of exchanges": none is an even number
    private static void moveOfNoExchange() {
        HoleTickets x = still();
        due("order", x.move(0), 1);
        due("rounds", x.move(1), 24);
        due("places sent to themselves", x.move(2), 24);
        due("longest round", x.move(3), 1);
        due("no exchange", x.move(4), 1);
        x.exchange(3, 23);
        due("one exchange", x.move(4), 0);
        x.exchange(23, 7);
        due("two exchanges", x.move(4), 1);
        due("a round of 24 is 23 exchanges", new HoleTickets().move(4), 0);
        due("twelve pairs", Checks.withMove(ALL_PAIRS).move(4), 1);
    }

    // "3 for the longest round": one of the highest places, all places, and rounds of one place alone
    private static void moveOfLongestRound() {
        due("the highest places", Checks.withMove("(0,1)(21,22,23)").move(3), 3);
        due("the lowest places", Checks.withMove("(0,1,2)(22,23)").move(3), 3);
        due("all places", Checks.withMove(ONE_ROUND).move(3), 24);
        due("all but one", Checks.withMove(ONE_ROUND.substring(0, 60) + ")").move(3), 23);
        due("all stay", still().move(3), 1);
    }

    // "The power k of the move is the move k times one behind the other": none at all, and a whole order of them
    private static void powerZeroAndOrder() {
        HoleTickets x = Checks.withMove(GREATEST_ORDER);
        for (int place = 0; place < 24; place++) {
            due("power(" + place + ", 0)", x.power(place, 0), place);
            due("power(" + place + ", 840)", x.power(place, 840), place);
            due("power(" + place + ", -840)", x.power(place, -840), place);
            due("power(" + place + ", 841)", x.power(place, 841), x.place(place, 0));
            due("power(" + place + ", 839)", x.power(place, 839), x.place(place, 1));
        }
    }

    // "power: -9999 to 9999", both of them in the range
    private static void powerAtItsEnds() {
        HoleTickets x = new HoleTickets();
        due("power(0, 9999)", x.power(0, 9999), 15);
        due("power(0, -9999)", x.power(0, -9999), 9);
        due("power(23, 9999)", x.power(23, 9999), 14);
        due("power(23, -9999)", x.power(23, -9999), 8);
        due("all stay: power(23, 9999)", still().power(23, 9999), 23);
        due("all stay: power(23, -9999)", still().power(23, -9999), 23);
    }

    // "with k below 0 it is the way back, -k times"
    private static void powerBelowZeroIsTheWayBack() {
        HoleTickets x = Checks.withMove(GREATEST_ORDER);
        HoleTickets back = Checks.withMove(GREATEST_ORDER);
        back.reverse();
        for (int place = 0; place < 24; place++) {
            due("power(" + place + ", -1)", x.power(place, -1), x.place(place, 1));
            due("power(" + place + ", -3)", x.power(place, -3), back.power(place, 3));
            due("power(" + place + ", -9999)", x.power(place, -9999), back.power(place, 9999));
        }
    }

    // "UNKNOWN; BAD_VALUE"
    private static void powerOutOfRange() {
        for (int power : new int[] {-10000, 10000, Integer.MIN_VALUE, Integer.MAX_VALUE}) {
            CHECKS.refused(Checks::someState, "power(0, " + power + ")", x -> x.power(0, power), BAD_VALUE);
            CHECKS.refused(Checks::someState, "power(24, " + power + ")", x -> x.power(24, power), UNKNOWN);
            CHECKS.refused(Checks::someState, "power(-1, " + power + ")", x -> x.power(-1, power), UNKNOWN);
        }
    }
}
