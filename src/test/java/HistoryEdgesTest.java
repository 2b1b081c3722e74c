import java.util.ArrayDeque;
import java.util.Deque;
import java.util.function.ToIntFunction;

/** The boundary cases of the history, the snapshot and the errors, and of promises 15 to 17; each test quotes its sentence. */
final class HistoryEdgesTest {
    private static final Checks CHECKS = new Checks("HistoryEdgesTest");
    private static final int UNKNOWN = HoleTickets.UNKNOWN;
    private static final int BAD_VALUE = HoleTickets.BAD_VALUE;
    private static final int NONE = HoleTickets.NONE;

    public static void main(String[] args) {
        historyOfNoState();
        fifthStateDropsTheOldest();
        historyFilledAndEmptiedFromEachStart();
        eachActRecordsOneState();
        refusedCallsRecordNothing();
        callsThatAreNoActs();
        undoBringsBackEveryAccount();
        undoLeavesTextAndSnapshot();
        snapshotEmptyAtFirst();
        snapshotOfNoneAndAllTickets();
        snapshotInPlaceOfTheOneThatWas();
        snapshotStaysAsItWas();
        restoreIsAnAct();
        restoreBringsBackEveryAccount();
        restoreLeavesTextAndHistory();
        last512thCall();
        accountsBehind512Calls();
        CHECKS.finish();
    }

    private static void due(String call, long got, long want) {
        CHECKS.due(call, got, want);
    }

    private static HoleTickets fullHistory() {
        HoleTickets x = Checks.someState();
        x.forge(1, 0, true);
        x.forge(1, 5, true);
        return x;
    }

    // "Returns the number of states that are left; NONE if the history is empty"
    private static void historyOfNoState() {
        CHECKS.refused(HoleTickets::new, "undo() of a new object", HoleTickets::undo, NONE);
        HoleTickets x = new HoleTickets();
        x.sell(1);
        due("the only state", x.undo(), 0);
        due("none is left", x.undo(), NONE);
        due("count(9)", x.count(9), 0);
        due("nor a ticket", x.count(0), 0);
        x.sell(1);
        due("one again", x.count(9), 1);
        due("the only state", x.undo(), 0);
    }

    // "A history of at most 4 states is kept; when one more is recorded, the oldest one is dropped"
    private static void fifthStateDropsTheOldest() {
        for (int acts = 1; acts <= 12; acts++) {
            HoleTickets x = new HoleTickets();
            for (int act = 1; act <= acts; act++) {
                x.sell(1);
                due("states behind " + act, x.count(9), Math.min(act, 4));
            }
            for (int left = Math.min(acts, 4) - 1; left >= 0; left--) {
                due("undo() behind " + acts, x.undo(), left);
            }
            due("undo() of none behind " + acts, x.undo(), NONE);
            due("tickets that are left of " + acts, x.count(0), Math.max(0, acts - 4));
        }
    }

    // "undo() removes and restores the latest one", wherever the history began and however often it was filled
    private static void historyFilledAndEmptiedFromEachStart() {
        for (int start = 0; start < 9; start++) {
            for (int undone = 0; undone <= 5; undone++) {
                HoleTickets x = new HoleTickets();
                x.sell(0);
                x.undo();
                x.sell(0);
                Deque<Integer> states = new ArrayDeque<>();
                states.addLast(UNKNOWN);
                changeHoles(x, states, start);
                undo(x, states, undone);
                changeHoles(x, states, 3);
                undo(x, states, 1);
                changeHoles(x, states, 2);
                undo(x, states, 5);
            }
        }
    }

    private static void changeHoles(HoleTickets x, Deque<Integer> states, int times) {
        for (int change = 0; change < times; change++) {
            int holes = x.ticket(0, 0);
            int place = (change * 5 + states.size()) % 24;
            if (holes == UNKNOWN) {
                x.sell(0);
            } else {
                x.forge(0, place, (holes >> place & 1) == 0);
            }
            states.addLast(holes);
            if (states.size() > 4) {
                states.removeFirst();
            }
            due("states", x.count(9), states.size());
        }
    }

    private static void undo(HoleTickets x, Deque<Integer> states, int times) {
        for (int undone = 0; undone < times; undone++) {
            if (states.isEmpty()) {
                due("undo() of none", x.undo(), NONE);
            } else {
                int holes = states.removeLast();
                due("undo()", x.undo(), states.size());
                due("the holes that were", x.ticket(0, 0), holes);
            }
        }
    }

    // "Each call of a method that is described as an act, and returns no error and not NONE, records the state that was before it"
    private static void eachActRecordsOneState() {
        dueAct("exchange(0, 23)", x -> x.exchange(0, 23));
        dueAct("reverse()", HoleTickets::reverse);
        dueAct("readMove()", HoleTickets::readMove);
        dueAct("sell(0)", x -> x.sell(0));
        dueAct("punch(0, 9)", x -> x.punch(0, 9));
        dueAct("punch(0, 3)", x -> x.punch(0, 3));
        dueAct("forge(0, 3, true)", x -> x.forge(0, 3, true));
        dueAct("forge(0, 23, false)", x -> x.forge(0, 23, false));
        dueAct("mend(0)", x -> x.mend(0));
        dueAct("turn(0, -1)", x -> x.turn(0, -1));
        dueAct("turn(2, 1), without holes", x -> x.turn(2, 1));
        dueAct("stack(2, true)", x -> x.stack(2, true));
        dueAct("stack(0, false)", x -> x.stack(0, false));
        dueAct("turnStack(11)", x -> x.turnStack(11));
        dueAct("restore()", HoleTickets::restore);
    }

    /** Once with room for one state more, and once with none. */
    private static void dueAct(String call, ToIntFunction<HoleTickets> act) {
        HoleTickets x = Checks.someState();
        due(call + " is no error", act.applyAsInt(x) >= 0 ? 1 : 0, 1);
        due(call + ": count(9)", x.count(9), 4);
        due(call + ": undo()", x.undo(), 3);
        CHECKS.same(call + " undone", Checks.told(x), Checks.told(Checks.someState()));
        HoleTickets full = fullHistory();
        act.applyAsInt(full);
        due(call + ", full: count(9)", full.count(9), 4);
        due(call + ", full: undo()", full.undo(), 3);
        CHECKS.same(call + ", full, undone", Checks.told(full), Checks.told(fullHistory()));
    }

    // "A call that returns an error or NONE changes nothing": nor does it drop a state of a full history
    private static void refusedCallsRecordNothing() {
        CHECKS.refused(HistoryEdgesTest::fullHistory, "exchange(0, 24)", x -> x.exchange(0, 24), UNKNOWN);
        CHECKS.refused(HistoryEdgesTest::fullHistory, "exchange(7, 7)", x -> x.exchange(7, 7), NONE);
        CHECKS.refused(HistoryEdgesTest::fullHistory, "sell(-1)", x -> x.sell(-1), BAD_VALUE);
        CHECKS.refused(HistoryEdgesTest::fullHistory, "punch(0, 0)", x -> x.punch(0, 0), NONE);
        CHECKS.refused(HistoryEdgesTest::fullHistory, "punch(3, 0)", x -> x.punch(3, 0), UNKNOWN);
        CHECKS.refused(HistoryEdgesTest::fullHistory, "forge(0, 9, true)", x -> x.forge(0, 9, true), NONE);
        CHECKS.refused(HistoryEdgesTest::fullHistory, "forge(0, -1, true)", x -> x.forge(0, -1, true), UNKNOWN);
        CHECKS.refused(HistoryEdgesTest::fullHistory, "mend(2)", x -> x.mend(2), NONE);
        CHECKS.refused(HistoryEdgesTest::fullHistory, "mend(3)", x -> x.mend(3), UNKNOWN);
        CHECKS.refused(HistoryEdgesTest::fullHistory, "turn(0, 24)", x -> x.turn(0, 24), NONE);
        CHECKS.refused(HistoryEdgesTest::fullHistory, "turn(0, 10000)", x -> x.turn(0, 10000), BAD_VALUE);
        CHECKS.refused(HistoryEdgesTest::fullHistory, "stack(0, true)", x -> x.stack(0, true), NONE);
        CHECKS.refused(HistoryEdgesTest::fullHistory, "stack(3, true)", x -> x.stack(3, true), UNKNOWN);
        CHECKS.refused(HistoryEdgesTest::fullHistory, "turnStack(0)", x -> x.turnStack(0), NONE);
        CHECKS.refused(HistoryEdgesTest::fullHistory, "turnStack(-10000)", x -> x.turnStack(-10000), BAD_VALUE);
        HoleTickets x = fullHistory();
        x.type('x');
        due("readMove() of a fault", x.readMove(), -123);
        due("undo()", x.undo(), 3);
        due("what was before the latest act", x.ticket(1, 2), Checks.set(0));
    }

    // what is not "described as an act" records nothing
    private static void callsThatAreNoActs() {
        HoleTickets x = fullHistory();
        String told = Checks.told(x);
        x.type('(');
        x.clearText();
        x.fault(0);
        x.keep();
        for (int what = 0; what <= 8; what++) {
            x.place(0, what);
            x.move(what);
            x.ticket(0, what);
            x.count(what);
            x.bestTurn(0, what);
        }
        x.power(0, -9999);
        x.alikeIn(0, 1);
        x.meetsIn(0, 1);
        x.reason(0, 1);
        x.kin(0);
        x.light();
        CHECKS.same("nothing changes", Checks.told(x), told);
        due("count(9)", x.count(9), 4);
        due("undo()", x.undo(), 3);
        due("what was before the latest act", x.ticket(1, 2), Checks.set(0));
        x.undo();
        x.keep();
        x.type('(');
        due("undo() is no act, keep() and type() neither", x.count(9), 2);
    }

    // "A state is everything but the text, the history and the snapshot": the accounts too
    private static void undoBringsBackEveryAccount() {
        HoleTickets x = new HoleTickets();
        x.sell(0);
        x.stack(0, true);
        x.punch(0, 1);
        due("undo()", x.undo(), 2);
        due("punched", x.count(6), 0);
        x.forge(0, 1, true);
        due("undo()", x.undo(), 2);
        due("frauds", x.count(7), 0);
        x.turn(0, 1);
        due("undo()", x.undo(), 2);
        due("turns", x.count(8), 0);
        due("turned by", x.ticket(0, 8), 0);
        x.turnStack(1);
        due("undo()", x.undo(), 2);
        due("turns", x.count(8), 0);
        due("undo()", x.undo(), 1);
        due("on the stack", x.count(1), 0);
        due("undo()", x.undo(), 0);
        due("tickets", x.count(0), 0);
    }

    // "A state is everything but the text, the history and the snapshot": these stay as they are
    private static void undoLeavesTextAndSnapshot() {
        HoleTickets x = new HoleTickets();
        x.sell(1);
        x.sell(2);
        x.keep();
        x.type('(');
        due("undo()", x.undo(), 1);
        due("undo()", x.undo(), 0);
        due("the text", x.count(10), 1);
        due("the snapshot", x.restore(), 2);
        due("its holes", x.ticket(1, 0), 2);
        due("undo()", x.undo(), 0);
        due("no ticket", x.count(0), 0);
        due("the snapshot", x.restore(), 2);
    }

    // "There is one snapshot, empty at first"; "NONE if there is no snapshot"
    private static void snapshotEmptyAtFirst() {
        CHECKS.refused(HoleTickets::new, "restore() of a new object", HoleTickets::restore, NONE);
        HoleTickets x = new HoleTickets();
        x.sell(1);
        due("restore()", x.restore(), NONE);
        x.undo();
        due("restore() behind undo", x.restore(), NONE);
    }

    // "Returns how many tickets there are", and "then": none, and all
    private static void snapshotOfNoneAndAllTickets() {
        HoleTickets x = new HoleTickets();
        due("keep() of none", x.keep(), 0);
        for (int ticket = 0; ticket < 12; ticket++) {
            x.sell(Checks.ALL);
        }
        due("restore() of none", x.restore(), 0);
        due("no ticket", x.ticket(0, 0), UNKNOWN);
        due("undo()", x.undo(), 3);
        due("keep() of all", x.keep(), 12);
        x.undo();
        due("restore() of all", x.restore(), 12);
        due("the last one", x.ticket(11, 0), Checks.ALL);
    }

    // "Takes a snapshot of the state, in place of the one that was"
    private static void snapshotInPlaceOfTheOneThatWas() {
        HoleTickets x = new HoleTickets();
        x.sell(1);
        due("keep()", x.keep(), 1);
        x.sell(2);
        due("keep()", x.keep(), 2);
        x.undo();
        x.undo();
        due("keep()", x.keep(), 0);
        due("restore()", x.restore(), 0);
        due("restore()", x.restore(), 0);
    }

    // "Restores the state of the snapshot, which stays": later acts change neither it nor what was recorded
    private static void snapshotStaysAsItWas() {
        HoleTickets x = Checks.someState();
        x.mend(0);
        x.keep();
        String kept = Checks.told(x);
        x.exchange(0, 5);
        x.punch(2, 2);
        due("restore()", x.restore(), 3);
        x.reverse();
        x.turn(1, 1);
        x.stack(0, false);
        due("restore() again", x.restore(), 3);
        CHECKS.same("the snapshot", Checks.told(x), kept);
        x.forge(0, 0, false);
        due("undo()", x.undo(), 3);
        CHECKS.same("what was recorded", Checks.told(x), kept);
    }

    // "This is an act": also if the state is the one there was
    private static void restoreIsAnAct() {
        HoleTickets x = new HoleTickets();
        x.keep();
        due("restore()", x.restore(), 0);
        due("recorded", x.count(9), 1);
        for (int times = 2; times <= 6; times++) {
            x.restore();
            due("recorded", x.count(9), Math.min(times, 4));
        }
        x.sell(1);
        x.restore();
        due("undo() of restore()", x.undo(), 3);
        due("the ticket is there again", x.count(0), 1);
    }

    // "A state is everything but the text, the history and the snapshot": the accounts too
    private static void restoreBringsBackEveryAccount() {
        HoleTickets x = Checks.someState();
        int[] kept = new int[9];
        for (int what = 0; what <= 8; what++) {
            kept[what] = x.count(what);
        }
        x.keep();
        x.sell(Checks.ALL);
        x.stack(3, true);
        x.punch(2, 5);
        x.forge(1, 9, true);
        x.turnStack(7);
        x.turn(1, 1);
        due("restore()", x.restore(), 3);
        for (int what = 0; what <= 8; what++) {
            due("count(" + what + ")", x.count(what), kept[what]);
        }
        due("turned by", x.ticket(1, 8), -5);
        due("turned by", x.ticket(0, 8), 0);
    }

    // "A state is everything but the text, the history and the snapshot": these stay as they are
    private static void restoreLeavesTextAndHistory() {
        HoleTickets x = new HoleTickets();
        x.type('(');
        x.keep();
        x.sell(1);
        x.sell(2);
        x.type('0');
        due("restore()", x.restore(), 0);
        due("the text", x.count(10), 2);
        due("the history, with the state before", x.count(9), 3);
        due("undo()", x.undo(), 2);
        due("tickets", x.count(0), 2);
        due("undo()", x.undo(), 1);
        due("tickets", x.count(0), 1);
    }

    // "An object is used for at most 512 calls after it has been made"
    private static void last512thCall() {
        HoleTickets x = new HoleTickets();
        x.sell(0);
        int calls = 1;
        for (; calls < 509; calls++) {
            x.forge(0, 23, calls % 2 == 1);
        }
        due("call 510", x.ticket(0, 0), 0);
        due("call 511", x.undo(), 3);
        due("call 512", x.ticket(0, 0), Checks.set(23));
        HoleTickets typed = new HoleTickets();
        for (calls = 0; calls < 511; calls++) {
            typed.type('(');
        }
        due("call 512, the text is full", typed.type('('), HoleTickets.FULL);
    }

    // "at most 512 calls": the greatest accounts that they can come to
    private static void accountsBehind512Calls() {
        HoleTickets x = new HoleTickets();
        for (int ticket = 0; ticket < 12; ticket++) {
            x.sell(Checks.ALL);
            x.stack(ticket, true);
        }
        for (int calls = 24; calls < 509; calls++) {
            x.turnStack(-9999);
        }
        due("count(8)", x.count(8), 12 * 485);
        due("ticket(0, 8)", x.ticket(0, 8), -9999 * 485);
        due("ticket(11, 8)", x.ticket(11, 8), -9999 * 485);
        HoleTickets punched = new HoleTickets();
        punched.sell(Checks.ALL);
        for (int calls = 1; calls < 509; calls += 2) {
            punched.forge(0, calls % 24, false);
            punched.punch(0, calls % 24);
        }
        due("count(6)", punched.count(6), 24 + 254);
        due("count(7)", punched.count(7), 254);
        due("all are right", punched.count(2), 0);
    }
}
