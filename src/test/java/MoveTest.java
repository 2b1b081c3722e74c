/** Promises 1 to 4, and 18 to 20: the move, and what is told of it. */
final class MoveTest {
    private static final Checks CHECKS = new Checks("MoveTest");

    public static void main(String[] args) {
        promise1NewObject();
        promise2Exchange();
        promise3Reverse();
        promise4ReadMove();
        promise18Place();
        promise19Move();
        promise20Power();
        CHECKS.finish();
    }

    private static void due(String call, long got, long want) {
        CHECKS.due(call, got, want);
    }

    private static void promise1NewObject() {
        HoleTickets x = new HoleTickets();
        for (int place = 0; place < 24; place++) {
            due("new: place(" + place + ", 0)", x.place(place, 0), (place + 1) % 24);
            due("new: place(" + place + ", 1)", x.place(place, 1), (place + 23) % 24);
        }
        for (int what = 0; what <= 10; what++) {
            due("new: count(" + what + ")", x.count(what), 0);
        }
        due("new: light", x.light(), 0);
        due("new: ticket(0, 0)", x.ticket(0, 0), HoleTickets.UNKNOWN);
        due("new: undo", x.undo(), HoleTickets.NONE);
        due("new: restore", x.restore(), HoleTickets.NONE);
        due("new: readMove", x.readMove(), -100);
        HoleTickets other = new HoleTickets();
        other.exchange(0, 1);
        other.sell(1);
        CHECKS.same("another object changes nothing", Checks.told(x), Checks.told(new HoleTickets()));
    }

    private static void promise2Exchange() {
        HoleTickets x = new HoleTickets();
        due("exchange(0, 12)", x.exchange(0, 12), 12);
        due("0 is sent to", x.place(0, 0), 13);
        due("12 is sent to", x.place(12, 0), 1);
        due("13 comes from", x.place(13, 1), 0);
        due("1 comes from", x.place(1, 1), 12);
        due("others stay", x.place(5, 0), 6);
        due("exchange(12, 0) is the way back", x.exchange(12, 0), 24);
        due("0 is sent to 1 again", x.place(0, 0), 1);
        due("exchange(23, 22)", x.exchange(23, 22), 23);
        due("23 stays", x.place(23, 0), 23);
        due("exchange(23, 4) takes it in", x.exchange(23, 4), 24);
        due("count(9)", x.count(9), 4);
        String told = Checks.told(x);
        due("exchange(-1, 0)", x.exchange(-1, 0), HoleTickets.UNKNOWN);
        due("exchange(0, -1)", x.exchange(0, -1), HoleTickets.UNKNOWN);
        due("exchange(24, 0)", x.exchange(24, 0), HoleTickets.UNKNOWN);
        due("exchange(0, 24)", x.exchange(0, 24), HoleTickets.UNKNOWN);
        due("exchange(24, 24)", x.exchange(24, 24), HoleTickets.UNKNOWN);
        due("exchange(far)", x.exchange(Integer.MIN_VALUE, Integer.MAX_VALUE), HoleTickets.UNKNOWN);
        due("exchange(0, 0)", x.exchange(0, 0), HoleTickets.NONE);
        due("exchange(23, 23)", x.exchange(23, 23), HoleTickets.NONE);
        CHECKS.same("errors and NONE change nothing", Checks.told(x), told);
        due("undo", x.undo(), 3);
        due("undone", x.place(23, 0), 23);
    }

    private static void promise3Reverse() {
        HoleTickets x = Checks.withMove("(0,5,9)(1,2,3,4)");
        due("reverse", x.reverse(), 12);
        due("0 is sent to 9", x.place(0, 0), 9);
        due("9 is sent to 5", x.place(9, 0), 5);
        due("1 comes from 2", x.place(1, 1), 2);
        due("7 stays", x.place(7, 0), 7);
        due("count(9)", x.count(9), 2);
        due("reverse again", x.reverse(), 12);
        due("0 is sent to 5", x.place(0, 0), 5);
        due("undo", x.undo(), 2);
        due("0 is sent to 9 again", x.place(0, 0), 9);
        HoleTickets pairs = Checks.withMove("(0,1)(2,3)");
        due("pairs: reverse", pairs.reverse(), HoleTickets.NONE);
        due("pairs: count(9)", pairs.count(9), 1);
        pairs.exchange(0, 1);
        due("all but a pair stay", pairs.exchange(2, 3), 1);
        due("all stay: reverse", pairs.reverse(), HoleTickets.NONE);
        HoleTickets three = Checks.withMove("(0,1,2)");
        due("a round of three: reverse", three.reverse(), 3);
    }

    private static void promise4ReadMove() {
        HoleTickets x = new HoleTickets();
        Checks.type(x, "(0,5)(10,23,1)");
        due("readMove", x.readMove(), 6);
        due("0 to 5", x.place(0, 0), 5);
        due("5 to 0", x.place(5, 0), 0);
        due("10 to 23", x.place(10, 0), 23);
        due("23 to 1", x.place(23, 0), 1);
        due("1 to 10", x.place(1, 0), 10);
        due("1 from 23", x.place(1, 1), 23);
        due("7 stays", x.place(7, 0), 7);
        due("7 from 7", x.place(7, 1), 7);
        due("the text stays", x.count(10), 14);
        due("count(9)", x.count(9), 1);
        due("the same once more is an act", x.readMove(), 6);
        due("count(9)", x.count(9), 2);
        String told = Checks.told(x);
        x.type(',');
        due("readMove with a fault", x.readMove(), -114);
        due("the text still stays", x.count(10), 15);
        CHECKS.same("a fault changes nothing", Checks.told(x), told);
        due("count(9)", x.count(9), 2);
        Checks.type(x, "(0,1,2,3,4)(5,6,7)(8,9,10,11,12,13,14,15)(16,17,18,19,20,21,22)");
        due("the greatest order", x.readMove(), 840);
        Checks.type(x, "(2,1,0)");
        due("all that were in rounds before stay now", x.readMove(), 3);
        due("places that stay", x.move(2), 21);
        due("undo", x.undo(), 3);
        due("the move before it", x.move(0), 840);
        Checks.type(x, "(0,1)(2,3)(4,5)(6,7)(8,9)(10,11)(12,13)(14,15)(16,17)(18,19)(20,21)(22,23)");
        due("the longest text", x.count(10), 74);
        due("twelve pairs", x.readMove(), 2);
        due("22 to 23", x.place(22, 0), 23);
    }

    private static void promise18Place() {
        HoleTickets x = Checks.withMove("(5,9,3)(0,20)");
        due("place(5, 0)", x.place(5, 0), 9);
        due("place(5, 1)", x.place(5, 1), 3);
        due("place(5, 2)", x.place(5, 2), 3);
        due("place(5, 3)", x.place(5, 3), 3);
        due("place(20, 2)", x.place(20, 2), 2);
        due("place(20, 3)", x.place(20, 3), 0);
        due("place(23, 2)", x.place(23, 2), 1);
        due("place(23, 3)", x.place(23, 3), 23);
        due("place(23, 4), no ticket", x.place(23, 4), 0);
        for (int ticket = 0; ticket < 12; ticket++) {
            x.sell(ticket % 3 == 0 ? Checks.set(0, 23) : Checks.set(1));
        }
        due("place(23, 4)", x.place(23, 4), Checks.set(0, 3, 6, 9));
        due("place(1, 4)", x.place(1, 4), Checks.set(1, 2, 4, 5, 7, 8, 10, 11));
        due("place(2, 4)", x.place(2, 4), 0);
        x.forge(0, 23, false);
        x.forge(11, 23, true);
        due("place(23, 4) behind frauds", x.place(23, 4), Checks.set(3, 6, 9, 11));
        due("place(-1, 0)", x.place(-1, 0), HoleTickets.UNKNOWN);
        due("place(24, 0)", x.place(24, 0), HoleTickets.UNKNOWN);
        due("place(24, 5)", x.place(24, 5), HoleTickets.UNKNOWN);
        due("place(0, -1)", x.place(0, -1), HoleTickets.BAD_VALUE);
        due("place(23, 5)", x.place(23, 5), HoleTickets.BAD_VALUE);
    }

    private static void promise19Move() {
        dueMove(new HoleTickets(), 24, 1, 0, 24, 0);
        dueMove(Checks.withMove("(0,1)"), 2, 23, 22, 2, 0);
        dueMove(Checks.withMove("(0,1)(2,3)"), 2, 22, 20, 2, 1);
        dueMove(Checks.withMove("(22,3,7)"), 3, 22, 21, 3, 1);
        dueMove(Checks.withMove("(0,1,2,3)(4,5,6,7,8,9)"), 12, 16, 14, 6, 1);
        dueMove(Checks.withMove("(0,1,2,3)(4,5,6,7,8,9)(23,22)"), 12, 15, 12, 6, 0);
        dueMove(Checks.withMove("(0,1)(13,15,17,19,21)"), 10, 19, 17, 5, 0);
        HoleTickets still = Checks.withMove("(0,1)");
        still.exchange(0, 1);
        dueMove(still, 1, 24, 24, 1, 1);
        due("move(-1)", still.move(-1), HoleTickets.BAD_VALUE);
        due("move(5)", still.move(5), HoleTickets.BAD_VALUE);
        due("move(far)", still.move(Integer.MIN_VALUE), HoleTickets.BAD_VALUE);
    }

    private static void dueMove(HoleTickets x, int... told) {
        for (int what = 0; what < told.length; what++) {
            due("move(" + what + ")", x.move(what), told[what]);
        }
    }

    private static void promise20Power() {
        HoleTickets x = Checks.withMove("(5,9,3,0)(10,11,12,13,14,15,16)");
        due("power(5, 0)", x.power(5, 0), 5);
        due("power(5, 1)", x.power(5, 1), 9);
        due("power(5, 2)", x.power(5, 2), 3);
        due("power(5, -1)", x.power(5, -1), 0);
        due("power(5, 4)", x.power(5, 4), 5);
        due("power(5, 9999)", x.power(5, 9999), 0);
        due("power(5, -9999)", x.power(5, -9999), 9);
        due("power(10, 9999)", x.power(10, 9999), 13);
        due("power(10, -9999)", x.power(10, -9999), 14);
        due("power(23, 77)", x.power(23, 77), 23);
        due("power(24, 0)", x.power(24, 0), HoleTickets.UNKNOWN);
        due("power(-1, 0)", x.power(-1, 0), HoleTickets.UNKNOWN);
        due("power(24, 10000)", x.power(24, 10000), HoleTickets.UNKNOWN);
        due("power(23, 10000)", x.power(23, 10000), HoleTickets.BAD_VALUE);
        due("power(0, -10000)", x.power(0, -10000), HoleTickets.BAD_VALUE);
        due("power(0, far)", x.power(0, Integer.MIN_VALUE), HoleTickets.BAD_VALUE);
        due("nothing is recorded", x.count(9), 1);
    }
}
