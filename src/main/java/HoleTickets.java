/** Punched tickets whose holes wander by powers of a move; ../shared/DOC.md says what each call answers. */
public final class HoleTickets {
    public static final int UNKNOWN = -1;
    public static final int BAD_VALUE = -2;
    public static final int FULL = -3;
    public static final int NOT_POSSIBLE = -4;
    public static final int NONE = -5;

    private static final int PLACES = 24;
    private static final int ALL_PLACES = 16777215;
    private static final int MOST_TICKETS = 12;
    private static final int MOST_POWER = 9999;
    private static final int MOST_CHARACTERS = 80;
    private static final int MOST_STATES = 4;
    private static final int NO_FAULT = 0;
    private static final int FAULT_AT_START = -100;

    private final State now;
    private final State kept;
    private boolean isKept;
    private final History history;
    private final MoveText text;

    public HoleTickets() {
        now = new State();
        kept = new State();
        isKept = false;
        history = new History();
        text = new MoveText();
    }

    // ---- the move

    public int exchange(int one, int other) {
        if (!isPlace(one) || !isPlace(other)) {
            return UNKNOWN;
        }
        if (one == other) {
            return NONE;
        }
        history.record(now);
        now.way.swapTargets(one, other);
        return now.way.order();
    }

    public int reverse() {
        int order = now.way.order();
        // a way back that is the move itself brings each place home in two moves
        if (order <= 2) {
            return NONE;
        }
        history.record(now);
        now.way.turnBack();
        return order;
    }

    public int readMove() {
        text.read();
        if (text.faultKind() != NO_FAULT) {
            return FAULT_AT_START - text.faultIndex();
        }
        history.record(now);
        now.way.take(text);
        return now.way.order();
    }

    // ---- tickets

    public int sell(int holes) {
        if (holes < 0 || holes > ALL_PLACES) {
            return BAD_VALUE;
        }
        if (now.sold() >= MOST_TICKETS) {
            return FULL;
        }
        history.record(now);
        return now.add(holes);
    }

    public int punch(int ticket, int place) {
        if (!now.isTicket(ticket) || !isPlace(place)) {
            return UNKNOWN;
        }
        if (has(now.holes(ticket) & now.due(ticket), place)) {
            return NONE;
        }
        history.record(now);
        now.punchByRight(ticket, place);
        return Integer.bitCount(now.holes(ticket));
    }

    public int forge(int ticket, int place, boolean open) {
        if (!now.isTicket(ticket) || !isPlace(place)) {
            return UNKNOWN;
        }
        if (has(now.holes(ticket), place) == open) {
            return NONE;
        }
        history.record(now);
        now.changeByFraud(ticket, place);
        return asNumber(now.isFalse(ticket));
    }

    public int mend(int ticket) {
        if (!now.isTicket(ticket)) {
            return UNKNOWN;
        }
        if (!now.isFalse(ticket)) {
            return NONE;
        }
        int different = Integer.bitCount(now.holes(ticket) ^ now.due(ticket));
        history.record(now);
        now.makeRight(ticket);
        return different;
    }

    public int turn(int ticket, int power) {
        if (!now.isTicket(ticket)) {
            return UNKNOWN;
        }
        if (!isPower(power)) {
            return BAD_VALUE;
        }
        if (now.way.leavesAll(power)) {
            return NONE;
        }
        history.record(now);
        now.turnTicket(ticket, power);
        return now.holes(ticket);
    }

    public int stack(int ticket, boolean on) {
        if (!now.isTicket(ticket)) {
            return UNKNOWN;
        }
        if (has(now.stacked(), ticket) == on) {
            return NONE;
        }
        history.record(now);
        now.changeStack(ticket);
        return Integer.bitCount(now.stacked());
    }

    public int turnStack(int power) {
        if (!isPower(power)) {
            return BAD_VALUE;
        }
        if (now.stacked() == 0 || now.way.leavesAll(power)) {
            return NONE;
        }
        history.record(now);
        now.turnStacked(power);
        return Integer.bitCount(now.stacked());
    }

    // ---- texts

    public int type(char character) {
        if (text.length() >= MOST_CHARACTERS) {
            return FULL;
        }
        text.append(character);
        return text.length();
    }

    public int clearText() {
        int length = text.length();
        text.empty();
        return length;
    }

    public int fault(int what) {
        if (what < 0 || what > 1) {
            return BAD_VALUE;
        }
        text.read();
        if (text.faultKind() == NO_FAULT) {
            return NONE;
        }
        return what == 0 ? text.faultIndex() : text.faultKind();
    }

    // ---- history

    public int undo() {
        if (history.size() == 0) {
            return NONE;
        }
        history.takeLatest(now);
        return history.size();
    }

    public int keep() {
        kept.copy(now);
        isKept = true;
        return now.sold();
    }

    public int restore() {
        if (!isKept) {
            return NONE;
        }
        history.record(now);
        now.copy(kept);
        return now.sold();
    }

    // ---- what is told

    public int place(int place, int what) {
        if (!isPlace(place)) {
            return UNKNOWN;
        }
        switch (what) {
            case 0:
                return now.way.target(place);
            case 1:
                return now.way.source(place);
            case 2:
                return Integer.bitCount(now.way.round(place));
            case 3:
                return lowest(now.way.round(place));
            case 4:
                return now.ticketsWithHole(place);
            default:
                return BAD_VALUE;
        }
    }

    public int move(int what) {
        switch (what) {
            case 0:
                return now.way.order();
            case 1:
                return now.way.rounds();
            case 2:
                return now.way.fixedPlaces();
            case 3:
                return now.way.longestRound();
            case 4:
                return asNumber(now.way.isEven());
            default:
                return BAD_VALUE;
        }
    }

    public int power(int place, int power) {
        if (!isPlace(place)) {
            return UNKNOWN;
        }
        if (!isPower(power)) {
            return BAD_VALUE;
        }
        return now.way.targetBehind(place, power);
    }

    public int ticket(int ticket, int what) {
        if (!now.isTicket(ticket)) {
            return UNKNOWN;
        }
        int holes = now.holes(ticket);
        int due = now.due(ticket);
        switch (what) {
            case 0:
                return holes;
            case 1:
                return due;
            case 2:
                return holes & ~due;
            case 3:
                return due & ~holes;
            case 4:
                return Integer.bitCount(holes);
            case 5:
                return asNumber(now.isFalse(ticket));
            case 6:
                return now.way.movesUntilSame(holes);
            case 7:
                return asNumber(has(now.stacked(), ticket));
            case 8:
                return now.turnedBy(ticket);
            default:
                return BAD_VALUE;
        }
    }

    public int alikeIn(int ticket, int other) {
        if (!now.isTicket(ticket) || !now.isTicket(other)) {
            return UNKNOWN;
        }
        return now.way.movesUntilAlike(now.holes(ticket), now.holes(other));
    }

    public int meetsIn(int ticket, int other) {
        if (!now.isTicket(ticket) || !now.isTicket(other)) {
            return UNKNOWN;
        }
        return now.way.movesUntilMeeting(now.holes(ticket), now.holes(other));
    }

    public int reason(int ticket, int other) {
        if (!now.isTicket(ticket) || !now.isTicket(other)) {
            return UNKNOWN;
        }
        int holes = now.holes(ticket);
        int wanted = now.holes(other);
        if (Integer.bitCount(holes) != Integer.bitCount(wanted)) {
            return 1;
        }
        if (!now.way.hasLikeNumbersInRounds(holes, wanted)) {
            return 2;
        }
        return now.way.movesUntilAlike(holes, wanted) == NONE ? 3 : 0;
    }

    public int kin(int ticket) {
        if (!now.isTicket(ticket)) {
            return UNKNOWN;
        }
        return now.kinOf(ticket);
    }

    public int light() {
        return now.lightPlaces();
    }

    public int bestTurn(int ticket, int what) {
        if (!now.isTicket(ticket)) {
            return UNKNOWN;
        }
        if (what < 0 || what > 1) {
            return BAD_VALUE;
        }
        if (!has(now.stacked(), ticket)) {
            return NOT_POSSIBLE;
        }
        return what == 0 ? now.bestPower(ticket) : now.mostLight(ticket);
    }

    public int count(int what) {
        switch (what) {
            case 0:
                return now.sold();
            case 1:
                return Integer.bitCount(now.stacked());
            case 2:
                return now.falseTickets();
            case 3:
                return now.allHoles();
            case 4:
                return now.allDue();
            case 5:
                return Integer.bitCount(now.lightPlaces());
            case 6:
                return now.punched();
            case 7:
                return now.frauds();
            case 8:
                return now.turns();
            case 9:
                return history.size();
            case 10:
                return text.length();
            default:
                return BAD_VALUE;
        }
    }

    // ---- numbers and sets

    private static boolean isPlace(int place) {
        return place >= 0 && place < PLACES;
    }

    private static boolean isPower(int power) {
        return power >= -MOST_POWER && power <= MOST_POWER;
    }

    private static int asNumber(boolean holds) {
        return holds ? 1 : 0;
    }

    private static int only(int member) {
        return 1 << member;
    }

    private static boolean has(int set, int member) {
        return (set & 1 << member) != 0;
    }

    private static int lowest(int set) {
        for (int place = 0; place < PLACES; place++) {
            if (has(set, place)) {
                return place;
            }
        }
        return NONE;
    }

    private static int leastCommonMultiple(int number, int divisor) {
        if (divisor < 1) {
            return number;
        }
        for (int times = 1; times < divisor; times++) {
            if (number * times % divisor == 0) {
                return number * times;
            }
        }
        return number * divisor;
    }

    /** Where each place is sent, and, beside it, from where each place is reached. */
    private static final class Move {
        private int[] targets;
        private int[] sources;

        Move() {
            targets = new int[PLACES];
            sources = new int[PLACES];
            for (int place = 0; place < PLACES; place++) {
                int next = place + 1 < PLACES ? place + 1 : 0;
                targets[place] = next;
                sources[next] = place;
            }
        }

        void copy(Move other) {
            System.arraycopy(other.targets, 0, targets, 0, PLACES);
            System.arraycopy(other.sources, 0, sources, 0, PLACES);
        }

        void take(MoveText text) {
            for (int place = 0; place < PLACES; place++) {
                send(place, text.target(place));
            }
        }

        void swapTargets(int one, int other) {
            int target = target(one);
            send(one, target(other));
            send(other, target);
        }

        void turnBack() {
            int[] row = targets;
            targets = sources;
            sources = row;
        }

        private void send(int place, int target) {
            if (isPlace(place) && isPlace(target)) {
                targets[place] = target;
                sources[target] = place;
            }
        }

        int target(int place) {
            return isPlace(place) ? targets[place] : UNKNOWN;
        }

        int source(int place) {
            return isPlace(place) ? sources[place] : UNKNOWN;
        }

        int round(int place) {
            int round = 0;
            int at = place;
            for (int moves = 0; moves < PLACES && isPlace(at) && !has(round, at); moves++) {
                round |= only(at);
                at = targets[at];
            }
            return round;
        }

        int order() {
            int order = 1;
            int seen = 0;
            for (int place = 0; place < PLACES; place++) {
                if (!has(seen, place)) {
                    int round = round(place);
                    seen |= round;
                    order = leastCommonMultiple(order, Integer.bitCount(round));
                }
            }
            return order;
        }

        int rounds() {
            int rounds = 0;
            int seen = 0;
            for (int place = 0; place < PLACES; place++) {
                if (!has(seen, place)) {
                    seen |= round(place);
                    rounds++;
                }
            }
            return rounds;
        }

        int fixedPlaces() {
            int fixed = 0;
            for (int place = 0; place < PLACES; place++) {
                if (targets[place] == place) {
                    fixed++;
                }
            }
            return fixed;
        }

        int longestRound() {
            int longest = 0;
            for (int place = 0; place < PLACES; place++) {
                longest = Math.max(longest, Integer.bitCount(round(place)));
            }
            return longest;
        }

        boolean isEven() {
            // a round of n places takes n - 1 exchanges
            return (PLACES - rounds()) % 2 == 0;
        }

        boolean leavesAll(int power) {
            int order = order();
            return order > 0 && power % order == 0;
        }

        int targetBehind(int place, int power) {
            int length = Integer.bitCount(round(place));
            if (length < 1) {
                return place;
            }
            int moves = Math.floorMod(power, length);
            int at = place;
            for (int made = 0; made < moves && isPlace(at); made++) {
                at = targets[at];
            }
            return at;
        }

        int moved(int set) {
            int moved = 0;
            for (int place = 0; place < PLACES; place++) {
                if (has(set, place)) {
                    moved |= only(targets[place]);
                }
            }
            return moved;
        }

        int movedBy(int set, int power) {
            int moved = 0;
            for (int place = 0; place < PLACES; place++) {
                if (has(set, place)) {
                    moved |= only(targetBehind(place, power));
                }
            }
            return moved;
        }

        int movesUntilSame(int set) {
            return movesUntilAlike(moved(set), set) + 1;
        }

        int movesUntilAlike(int set, int wanted) {
            int order = order();
            int at = set;
            for (int moves = 0; moves < order; moves++) {
                if (at == wanted) {
                    return moves;
                }
                at = moved(at);
            }
            return NONE;
        }

        int movesUntilMeeting(int set, int other) {
            int at = set;
            // a hole has been at every place of its round before as many moves as there are places
            for (int moves = 0; moves < PLACES; moves++) {
                if ((at & other) != 0) {
                    return moves;
                }
                at = moved(at);
            }
            return NONE;
        }

        boolean hasLikeNumbersInRounds(int set, int other) {
            for (int place = 0; place < PLACES; place++) {
                int round = round(place);
                if (Integer.bitCount(set & round) != Integer.bitCount(other & round)) {
                    return false;
                }
            }
            return true;
        }
    }

    /** All that the history and the snapshot hold: the move, the tickets, the stack and the accounts. */
    private static final class State {
        private final Move way;
        private final int[] holes;
        private final int[] due;
        private final int[] turnedBy;
        private int sold;
        private int stacked;
        private int punched;
        private int frauds;
        private int turns;

        State() {
            way = new Move();
            holes = new int[MOST_TICKETS];
            due = new int[MOST_TICKETS];
            turnedBy = new int[MOST_TICKETS];
        }

        void copy(State other) {
            way.copy(other.way);
            System.arraycopy(other.holes, 0, holes, 0, MOST_TICKETS);
            System.arraycopy(other.due, 0, due, 0, MOST_TICKETS);
            System.arraycopy(other.turnedBy, 0, turnedBy, 0, MOST_TICKETS);
            sold = other.sold;
            stacked = other.stacked;
            punched = other.punched;
            frauds = other.frauds;
            turns = other.turns;
        }

        boolean isTicket(int ticket) {
            return ticket >= 0 && ticket < sold && ticket < MOST_TICKETS;
        }

        int holes(int ticket) {
            return isTicket(ticket) ? holes[ticket] : 0;
        }

        int due(int ticket) {
            return isTicket(ticket) ? due[ticket] : 0;
        }

        int turnedBy(int ticket) {
            return isTicket(ticket) ? turnedBy[ticket] : 0;
        }

        int sold() {
            return sold;
        }

        int stacked() {
            return stacked;
        }

        int punched() {
            return punched;
        }

        int frauds() {
            return frauds;
        }

        int turns() {
            return turns;
        }

        boolean isFalse(int ticket) {
            return holes(ticket) != due(ticket);
        }

        int add(int set) {
            if (sold < 0 || sold >= MOST_TICKETS) {
                return FULL;
            }
            int ticket = sold;
            holes[ticket] = set;
            due[ticket] = set;
            turnedBy[ticket] = 0;
            sold++;
            punched += Integer.bitCount(set);
            return ticket;
        }

        void punchByRight(int ticket, int place) {
            if (isTicket(ticket)) {
                holes[ticket] |= only(place);
                due[ticket] |= only(place);
                punched++;
            }
        }

        void changeByFraud(int ticket, int place) {
            if (isTicket(ticket)) {
                holes[ticket] ^= only(place);
                frauds++;
            }
        }

        void makeRight(int ticket) {
            if (isTicket(ticket)) {
                holes[ticket] = due[ticket];
            }
        }

        void changeStack(int ticket) {
            stacked ^= only(ticket);
        }

        void turnTicket(int ticket, int power) {
            if (isTicket(ticket)) {
                holes[ticket] = way.movedBy(holes[ticket], power);
                due[ticket] = way.movedBy(due[ticket], power);
                turnedBy[ticket] += power;
                turns++;
            }
        }

        void turnStacked(int power) {
            for (int ticket = 0; ticket < MOST_TICKETS; ticket++) {
                if (has(stacked, ticket)) {
                    turnTicket(ticket, power);
                }
            }
        }

        int ticketsWithHole(int place) {
            int tickets = 0;
            for (int ticket = 0; ticket < MOST_TICKETS; ticket++) {
                if (has(holes(ticket), place)) {
                    tickets |= only(ticket);
                }
            }
            return tickets;
        }

        int falseTickets() {
            int tickets = 0;
            for (int ticket = 0; ticket < MOST_TICKETS; ticket++) {
                if (isFalse(ticket)) {
                    tickets++;
                }
            }
            return tickets;
        }

        int allHoles() {
            int all = 0;
            for (int ticket = 0; ticket < MOST_TICKETS; ticket++) {
                all += Integer.bitCount(holes(ticket));
            }
            return all;
        }

        int allDue() {
            int all = 0;
            for (int ticket = 0; ticket < MOST_TICKETS; ticket++) {
                all += Integer.bitCount(due(ticket));
            }
            return all;
        }

        int kinOf(int ticket) {
            int kin = 0;
            int at = holes(ticket);
            int order = way.order();
            for (int moves = 0; moves < order; moves++) {
                kin |= ticketsWithHoles(at);
                at = way.moved(at);
            }
            return kin;
        }

        private int ticketsWithHoles(int set) {
            int tickets = 0;
            for (int ticket = 0; ticket < MOST_TICKETS; ticket++) {
                if (isTicket(ticket) && holes[ticket] == set) {
                    tickets |= only(ticket);
                }
            }
            return tickets;
        }

        int lightPlaces() {
            return stacked == 0 ? 0 : commonHoles(stacked);
        }

        int bestPower(int ticket) {
            int others = commonHoles(stacked & ~only(ticket));
            int at = holes(ticket);
            int order = way.order();
            int best = 0;
            int most = Integer.bitCount(at & others);
            for (int power = 1; power < order; power++) {
                at = way.moved(at);
                int places = Integer.bitCount(at & others);
                if (places > most) {
                    most = places;
                    best = power;
                }
            }
            return best;
        }

        int mostLight(int ticket) {
            int others = commonHoles(stacked & ~only(ticket));
            return Integer.bitCount(way.movedBy(holes(ticket), bestPower(ticket)) & others);
        }

        /** All places if there is no ticket: then no ticket stands in the way of the light. */
        private int commonHoles(int tickets) {
            int common = ALL_PLACES;
            for (int ticket = 0; ticket < MOST_TICKETS; ticket++) {
                if (has(tickets, ticket)) {
                    common &= holes(ticket);
                }
            }
            return common;
        }
    }

    /** The latest states; the rows are used again, so that recording makes no object. */
    private static final class History {
        private final State[] rows;
        private int next;
        private int size;

        History() {
            rows = new State[MOST_STATES];
            for (int row = 0; row < MOST_STATES; row++) {
                rows[row] = new State();
            }
        }

        int size() {
            return size;
        }

        void record(State state) {
            State row = row(next);
            if (row != null) {
                row.copy(state);
                next = next + 1 < MOST_STATES ? next + 1 : 0;
                size = Math.min(size + 1, MOST_STATES);
            }
        }

        void takeLatest(State state) {
            int latest = next > 0 ? next - 1 : MOST_STATES - 1;
            State row = row(latest);
            if (row != null && size > 0) {
                state.copy(row);
                next = latest;
                size--;
            }
        }

        private State row(int index) {
            return index >= 0 && index < MOST_STATES ? rows[index] : null;
        }
    }

    /** The typed characters, and what their last reading found: a fault, or where each place is sent. */
    private static final class MoveText {
        private static final int AT_ROUND = 0;
        private static final int AT_PLACE = 1;
        private static final int IN_PLACE = 2;

        private static final int ENDS_EARLY = 1;
        private static final int NO_PLACE = 2;
        private static final int CAME_ALREADY = 3;
        private static final int NOT_ALLOWED = 4;

        private final char[] characters;
        private int length;
        private final int[] targets;
        private int faultIndex;
        private int faultKind;
        private int awaited;
        private int number;
        private int came;
        private int firstOfRound;
        private int lastOfRound;

        MoveText() {
            characters = new char[MOST_CHARACTERS];
            targets = new int[PLACES];
        }

        int length() {
            return length;
        }

        int faultIndex() {
            return faultIndex;
        }

        int faultKind() {
            return faultKind;
        }

        int target(int place) {
            return isPlace(place) ? targets[place] : UNKNOWN;
        }

        void append(char character) {
            if (length >= 0 && length < MOST_CHARACTERS) {
                characters[length] = character;
                length++;
            }
        }

        void empty() {
            length = 0;
        }

        void read() {
            startReading();
            for (int index = 0; index < MOST_CHARACTERS && index < length && faultKind == NO_FAULT; index++) {
                faultKind = faultOf(characters[index]);
                faultIndex = index;
            }
            if (faultKind == NO_FAULT) {
                faultKind = faultOfEnd();
                faultIndex = length;
            }
        }

        private void startReading() {
            for (int place = 0; place < PLACES; place++) {
                targets[place] = place;
            }
            faultKind = NO_FAULT;
            awaited = AT_ROUND;
            came = 0;
        }

        private int faultOf(char character) {
            switch (awaited) {
                case AT_ROUND:
                    return startRound(character);
                case AT_PLACE:
                    return startPlace(character);
                default:
                    return isDigit(character) ? lengthenPlace(character) : endPlace(character);
            }
        }

        private int faultOfEnd() {
            if (awaited == IN_PLACE && has(came, number)) {
                return CAME_ALREADY;
            }
            return awaited == AT_ROUND && came != 0 ? NO_FAULT : ENDS_EARLY;
        }

        private int startRound(char character) {
            if (character != '(') {
                return NOT_ALLOWED;
            }
            firstOfRound = NONE;
            awaited = AT_PLACE;
            return NO_FAULT;
        }

        private int startPlace(char character) {
            if (!isDigit(character)) {
                return NOT_ALLOWED;
            }
            number = character - '0';
            awaited = IN_PLACE;
            return NO_FAULT;
        }

        private int lengthenPlace(char character) {
            int longer = number * 10 + (character - '0');
            if (number == 0 || longer >= PLACES) {
                return NO_PLACE;
            }
            number = longer;
            return NO_FAULT;
        }

        private int endPlace(char character) {
            if (has(came, number)) {
                return CAME_ALREADY;
            }
            boolean isFirst = firstOfRound == NONE;
            if (character != ',' && (character != ')' || isFirst)) {
                return NOT_ALLOWED;
            }
            if (isFirst) {
                firstOfRound = number;
            } else {
                send(lastOfRound, number);
            }
            came |= only(number);
            lastOfRound = number;
            awaited = AT_PLACE;
            if (character == ')') {
                send(lastOfRound, firstOfRound);
                awaited = AT_ROUND;
            }
            return NO_FAULT;
        }

        private void send(int place, int target) {
            if (isPlace(place) && isPlace(target)) {
                targets[place] = target;
            }
        }

        private static boolean isDigit(char character) {
            return character >= '0' && character <= '9';
        }
    }
}
