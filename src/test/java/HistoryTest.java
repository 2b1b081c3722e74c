/** Promises 15 to 17: undo and the snapshot. */
final class HistoryTest {
    private static final Checks CHECKS = new Checks("HistoryTest");
    private static final int NONE = HoleTickets.NONE;

    public static void main(String[] args) {
        promise15Undo();
        promise15UndoOfEachAct();
        promise16Keep();
        promise17Restore();
        CHECKS.finish();
    }

    private static void due(String call, long got, long want) {
        CHECKS.due(call, got, want);
    }

    private static HoleTickets sold(int tickets) {
        HoleTickets x = new HoleTickets();
        for (int ticket = 0; ticket < tickets; ticket++) {
            x.sell(ticket);
        }
        return x;
    }

    private static void promise15Undo() {
        HoleTickets x = sold(7);
        due("count(9)", x.count(9), 4);
        for (int left = 3; left >= 0; left--) {
            due("undo", x.undo(), left);
            CHECKS.same("the state", Checks.told(x), Checks.told(sold(3 + left)));
            due("count(9)", x.count(9), left);
        }
        due("undo when empty", x.undo(), NONE);
        CHECKS.same("nothing changes", Checks.told(x), Checks.told(sold(3)));
        due("sell", x.sell(9), 3);
        due("undo", x.undo(), 0);
        due("undo when empty", x.undo(), NONE);
        due("sold ones", x.count(0), 3);
    }

    private static HoleTickets someState() {
        HoleTickets x = Checks.withMove("(0,1,2)(3,4,5,6)");
        x.sell(Checks.set(0, 3));
        x.sell(Checks.set(1, 4));
        x.stack(0, true);
        x.turn(1, 5);
        x.forge(0, 9, true);
        x.type('x');
        return x;
    }

    private static void act(HoleTickets x, int which) {
        switch (which) {
            case 0: x.exchange(0, 1); break;
            case 1: x.reverse(); break;
            case 2: Checks.type(x, "(8,9)(20,23,21)"); x.readMove(); break;
            case 3: x.sell(5); break;
            case 4: x.punch(0, 9); break;
            case 5: x.forge(0, 9, false); break;
            case 6: x.mend(0); break;
            case 7: x.turn(0, 1); break;
            case 8: x.stack(1, true); break;
            case 9: x.turnStack(2); break;
            default: x.restore(); break;
        }
    }

    private static void promise15UndoOfEachAct() {
        for (int which = 0; which <= 10; which++) {
            HoleTickets x = someState();
            x.keep();
            x.sell(77);
            String told = Checks.told(x);
            act(x, which);
            int length = x.count(10);
            due("act " + which + " changes something", Checks.told(x).equals(told) ? 1 : 0, 0);
            due("act " + which + " undone", x.undo(), 3);
            CHECKS.same("act " + which, Checks.told(x), told);
            due("act " + which + " leaves the text", x.count(10), length);
        }
    }

    private static void promise16Keep() {
        HoleTickets x = new HoleTickets();
        due("keep without tickets", x.keep(), 0);
        due("no act", x.count(9), 0);
        x.sell(1);
        x.sell(2);
        due("keep", x.keep(), 2);
        x.sell(3);
        due("keep in place of it", x.keep(), 3);
        x.sell(4);
        due("restore", x.restore(), 3);
        due("no act", x.count(9), 4);
        x.undo();
        x.undo();
        x.undo();
        due("undo leaves the snapshot", x.count(0), 2);
        due("restore", x.restore(), 3);
    }

    private static void promise17Restore() {
        HoleTickets x = someState();
        due("restore without a snapshot", x.restore(), NONE);
        due("nothing is recorded", x.count(9), 4);
        String kept = Checks.told(x);
        due("keep", x.keep(), 2);
        for (int which = 0; which < 10; which++) {
            act(x, which);
        }
        x.type('(');
        int length = x.count(10);
        String before = Checks.told(x);
        due("restore", x.restore(), 2);
        CHECKS.same("the snapshot", Checks.told(x), kept);
        due("the text stays", x.count(10), length);
        due("count(9)", x.count(9), 4);
        x.exchange(3, 9);
        x.sell(1);
        due("it stays", x.restore(), 2);
        CHECKS.same("the snapshot again", Checks.told(x), kept);
        x.undo();
        x.undo();
        x.undo();
        due("undo of restore", x.undo(), 0);
        CHECKS.same("the state before it", Checks.told(x), before);
        due("restore is recorded though nothing changes", x.restore(), 2);
        due("restore", x.restore(), 2);
        due("count(9)", x.count(9), 2);
    }
}
