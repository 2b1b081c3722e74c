/** Compares answers with those that are due, and ends with exit code 1 if one is not. */
final class Checks {
    static final int ALL = (1 << 24) - 1;

    private final String name;
    private int made;
    private int wrong;

    Checks(String name) {
        this.name = name;
    }

    void due(String call, long got, long want) {
        made++;
        if (got != want) {
            wrong++;
            System.out.println(name + ": " + call + " answered " + got + ", due is " + want);
        }
    }

    boolean allAreDue() {
        return wrong == 0;
    }

    void finish() {
        System.out.println(name + ": " + made + " answers, " + wrong + " not as due");
        if (wrong != 0) {
            System.exit(1);
        }
    }

    static int set(int... places) {
        int set = 0;
        for (int place : places) {
            set |= 1 << place;
        }
        return set;
    }

    static void type(HoleTickets x, String text) {
        x.clearText();
        for (char character : text.toCharArray()) {
            x.type(character);
        }
    }

    /** An object whose move is that of the text. */
    static HoleTickets withMove(String text) {
        HoleTickets x = new HoleTickets();
        type(x, text);
        x.readMove();
        return x;
    }

    /** Everything that can be asked of an object, but for its text and the size of its history. */
    static String told(HoleTickets x) {
        StringBuilder told = new StringBuilder();
        for (int what = 0; what <= 4; what++) {
            told.append(" m").append(x.move(what));
        }
        for (int place = 0; place < 24; place++) {
            told.append(" p").append(x.place(place, 0)).append('<').append(x.place(place, 1));
        }
        for (int ticket = 0; ticket < x.count(0); ticket++) {
            for (int what = 0; what <= 8; what++) {
                told.append(what == 0 ? " t" : ",").append(x.ticket(ticket, what));
            }
        }
        for (int what = 0; what <= 8; what++) {
            told.append(" c").append(x.count(what));
        }
        return told.append(" l").append(x.light()).toString();
    }

    void same(String call, String got, String want) {
        due(call + (got.equals(want) ? "" : ": " + got + " for " + want), got.equals(want) ? 1 : 0, 1);
    }
}
