import java.util.function.Supplier;
import java.util.function.ToIntFunction;

/** Compares answers with those that are due, and ends with exit code 1 if one is not. */
final class Checks {
    static final int ALL = (1 << 24) - 1;

    private final String name;
    private int made;
    private int wrong;

    Checks(String name) {
        this.name = name;
    }

    void due(String call, long got, long want) {
        made++;
        if (got != want) {
            wrong++;
            System.out.println(name + ": " + call + " answered " + got + ", due is " + want);
        }
    }

    boolean allAreDue() {
        return wrong == 0;
    }

    void finish() {
        System.out.println(name + ": " + made + " answers, " + wrong + " not as due");
        if (wrong != 0) {
            System.exit(1);
        }
    }

    static int set(int... places) {
        int set = 0;
        for (int place : places) {
            set |= 1 << place;
        }
        return set;
    }

    static void type(HoleTickets x, String text) {
        x.clearText();
        for (char character : text.toCharArray()) {
            x.type(character);
        }
    }

    /** An object whose move is that of the text. */
    static HoleTickets withMove(String text) {
        HoleTickets x = new HoleTickets();
        type(x, text);
        x.readMove();
        return x;
    }

    /** All of which a state consists, asked by few calls, since an object answers for 512 calls alone. */
    static String told(HoleTickets x) {
        StringBuilder told = new StringBuilder();
        for (int place = 0; place < 24; place++) {
            told.append(" p").append(x.place(place, 0)).append('<').append(x.place(place, 1));
        }
        int sold = x.count(0);
        for (int ticket = 0; ticket < sold; ticket++) {
            told.append(" t").append(x.ticket(ticket, 0)).append(',').append(x.ticket(ticket, 1));
            told.append(',').append(x.ticket(ticket, 7)).append(',').append(x.ticket(ticket, 8));
        }
        return told.append(" c").append(x.count(6)).append(',').append(x.count(7)).append(',').append(x.count(8)).toString();
    }

    /** The state, the text, the latest state of the history and the snapshot; the object is used up then. */
    static String everything(HoleTickets x) {
        StringBuilder told = new StringBuilder(told(x));
        told.append(" h").append(x.count(9)).append(" x").append(x.count(10));
        told.append(" f").append(x.fault(0)).append(',').append(x.fault(1));
        told.append(" u").append(x.undo()).append(told(x));
        return told.append(" r").append(x.restore()).append(told(x)).toString();
    }

    /** The call answers an error or NONE, and all is then as in an object that was never called so. */
    void refused(Supplier<HoleTickets> state, String call, ToIntFunction<HoleTickets> refusedCall, int want) {
        HoleTickets x = state.get();
        due(call, refusedCall.applyAsInt(x), want);
        same(call + " changes nothing", everything(x), everything(state.get()));
    }

    /** Rounds of three, of four and of two, three tickets, a text, a snapshot, and three states in the history. */
    static HoleTickets someState() {
        HoleTickets x = withMove("(0,1,2)(3,4,5,6)(20,23)");
        x.sell(set(0, 3, 23));
        x.sell(set(1, 4));
        x.sell(0);
        x.stack(0, true);
        x.turn(1, -5);
        x.keep();
        x.forge(0, 9, true);
        x.forge(0, 3, false);
        x.stack(1, true);
        x.undo();
        x.stack(2, true);
        x.undo();
        return x;
    }

    void same(String call, String got, String want) {
        due(call + (got.equals(want) ? "" : ": " + got + " for " + want), got.equals(want) ? 1 : 0, 1);
    }
}
