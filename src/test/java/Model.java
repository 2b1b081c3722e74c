import java.util.ArrayDeque;
import java.util.ArrayList;
import java.util.Arrays;
import java.util.Deque;
import java.util.List;
import java.util.TreeSet;
import java.util.regex.Matcher;
import java.util.regex.Pattern;

/** The document once more, in another way than the program: powers made one behind the other, sets of places, texts by a pattern. */
final class Model {
    private static final String PLACE = "(?:0|1\\d?|2[0-3]?|[3-9])";
    private static final Pattern MOVE = Pattern.compile("(?:\\(" + PLACE + "(?:," + PLACE + ")+\\))+", Pattern.UNICODE_CASE);

    private static final class Ticket {
        TreeSet<Integer> holes = new TreeSet<>();
        TreeSet<Integer> due = new TreeSet<>();
        boolean on;
        int powers;

        Ticket copy() {
            Ticket copy = new Ticket();
            copy.holes.addAll(holes);
            copy.due.addAll(due);
            copy.on = on;
            copy.powers = powers;
            return copy;
        }
    }

    private static final class Store {
        int[] move = new int[24];
        List<Ticket> tickets = new ArrayList<>();
        int punched;
        int frauds;
        int turns;

        Store copy() {
            Store copy = new Store();
            copy.move = move.clone();
            for (Ticket ticket : tickets) {
                copy.tickets.add(ticket.copy());
            }
            copy.punched = punched;
            copy.frauds = frauds;
            copy.turns = turns;
            return copy;
        }
    }

    private Store store = new Store();
    private Store snapshot;
    private final Deque<Store> history = new ArrayDeque<>();
    private String text = "";
    private List<int[]> powers;

    Model() {
        for (int place = 0; place < 24; place++) {
            store.move[place] = (place + 1) % 24;
        }
    }

    private void act() {
        history.addLast(store.copy());
        if (history.size() > 4) {
            history.removeFirst();
        }
    }

    /** All powers from 0 on, up to the one before the first that is power 0 again. */
    private List<int[]> powers() {
        if (powers == null || !Arrays.equals(powers.get(1 % powers.size()), store.move)) {
            powers = new ArrayList<>();
            int[] power = new int[24];
            for (int place = 0; place < 24; place++) {
                power[place] = place;
            }
            int[] first = power;
            do {
                powers.add(power);
                int[] next = new int[24];
                for (int place = 0; place < 24; place++) {
                    next[place] = store.move[power[place]];
                }
                power = next;
            } while (!Arrays.equals(power, first));
        }
        return powers;
    }

    private int[] power(int power) {
        int order = powers().size();
        return powers().get((power % order + order) % order);
    }

    private static TreeSet<Integer> image(TreeSet<Integer> set, int[] power) {
        TreeSet<Integer> image = new TreeSet<>();
        for (int place : set) {
            image.add(power[place]);
        }
        return image;
    }

    private static int number(Iterable<Integer> set) {
        int number = 0;
        for (int member : set) {
            number += (int) Math.pow(2, member);
        }
        return number;
    }

    private boolean noPlace(int place) {
        return place < 0 || place > 23;
    }

    private boolean noTicket(int ticket) {
        return ticket < 0 || ticket >= store.tickets.size();
    }

    private static boolean noPower(int power) {
        return Math.abs((long) power) > 9999;
    }

    private TreeSet<Integer> round(int place) {
        TreeSet<Integer> round = new TreeSet<>();
        for (int[] power : powers()) {
            round.add(power[place]);
        }
        return round;
    }

    int exchange(int one, int other) {
        if (noPlace(one) || noPlace(other)) {
            return -1;
        }
        if (one == other) {
            return -5;
        }
        act();
        int target = store.move[one];
        store.move[one] = store.move[other];
        store.move[other] = target;
        return powers().size();
    }

    int reverse() {
        int[] back = power(-1).clone();
        if (Arrays.equals(back, store.move)) {
            return -5;
        }
        act();
        store.move = back;
        return powers().size();
    }

    int readMove() {
        if (fault(1) != -5) {
            return -100 - fault(0);
        }
        act();
        for (int place = 0; place < 24; place++) {
            store.move[place] = place;
        }
        for (String round : text.substring(1, text.length() - 1).split("\\)\\(")) {
            String[] places = round.split(",");
            for (int at = 0; at < places.length; at++) {
                store.move[Integer.parseInt(places[at])] = Integer.parseInt(places[(at + 1) % places.length]);
            }
        }
        return powers().size();
    }

    int sell(int holes) {
        if (holes < 0 || holes > 16777215) {
            return -2;
        }
        if (store.tickets.size() == 12) {
            return -3;
        }
        act();
        Ticket sold = new Ticket();
        for (int place = 0; place < 24; place++) {
            if (holes / (int) Math.pow(2, place) % 2 == 1) {
                sold.holes.add(place);
                sold.due.add(place);
                store.punched++;
            }
        }
        store.tickets.add(sold);
        return store.tickets.size() - 1;
    }

    int punch(int ticket, int place) {
        if (noTicket(ticket) || noPlace(place)) {
            return -1;
        }
        Ticket seen = store.tickets.get(ticket);
        if (seen.holes.contains(place) && seen.due.contains(place)) {
            return -5;
        }
        act();
        seen.holes.add(place);
        seen.due.add(place);
        store.punched++;
        return seen.holes.size();
    }

    int forge(int ticket, int place, boolean open) {
        if (noTicket(ticket) || noPlace(place)) {
            return -1;
        }
        Ticket seen = store.tickets.get(ticket);
        if (seen.holes.contains(place) == open) {
            return -5;
        }
        act();
        if (open) {
            seen.holes.add(place);
        } else {
            seen.holes.remove(place);
        }
        store.frauds++;
        return seen.holes.equals(seen.due) ? 0 : 1;
    }

    int mend(int ticket) {
        if (noTicket(ticket)) {
            return -1;
        }
        int different = 0;
        Ticket seen = store.tickets.get(ticket);
        for (int place = 0; place < 24; place++) {
            different += seen.holes.contains(place) != seen.due.contains(place) ? 1 : 0;
        }
        if (different == 0) {
            return -5;
        }
        act();
        seen.holes = new TreeSet<>(seen.due);
        return different;
    }

    private void turnOne(Ticket seen, int power) {
        seen.holes = image(seen.holes, power(power));
        seen.due = image(seen.due, power(power));
        seen.powers += power;
        store.turns++;
    }

    int turn(int ticket, int power) {
        if (noTicket(ticket)) {
            return -1;
        }
        if (noPower(power)) {
            return -2;
        }
        if (power(power) == powers().get(0)) {
            return -5;
        }
        act();
        turnOne(store.tickets.get(ticket), power);
        return number(store.tickets.get(ticket).holes);
    }

    private List<Ticket> stacked() {
        List<Ticket> stacked = new ArrayList<>();
        for (Ticket ticket : store.tickets) {
            if (ticket.on) {
                stacked.add(ticket);
            }
        }
        return stacked;
    }

    int stack(int ticket, boolean on) {
        if (noTicket(ticket)) {
            return -1;
        }
        if (store.tickets.get(ticket).on == on) {
            return -5;
        }
        act();
        store.tickets.get(ticket).on = on;
        return stacked().size();
    }

    int turnStack(int power) {
        if (noPower(power)) {
            return -2;
        }
        if (stacked().isEmpty() || power(power) == powers().get(0)) {
            return -5;
        }
        act();
        for (Ticket ticket : stacked()) {
            turnOne(ticket, power);
        }
        return stacked().size();
    }

    int type(char character) {
        if (text.length() == 80) {
            return -3;
        }
        text += character;
        return text.length();
    }

    int clearText() {
        int length = text.length();
        text = "";
        return length;
    }

    int fault(int what) {
        if (what != 0 && what != 1) {
            return -2;
        }
        int viable = 0;
        while (viable < text.length() && canGoOn(text.substring(0, viable + 1))) {
            viable++;
        }
        int twice = endOfPlaceThatCame(viable);
        if (twice >= 0) {
            return what == 0 ? twice : 3;
        }
        if (viable == text.length()) {
            boolean whole = MOVE.matcher(text).matches();
            return whole ? -5 : what == 0 ? viable : 1;
        }
        if (what == 0) {
            return viable;
        }
        return isDigit(viable) && viable > 0 && isDigit(viable - 1) ? 2 : 4;
    }

    private static boolean canGoOn(String start) {
        Matcher matcher = MOVE.matcher(start);
        return matcher.matches() || matcher.hitEnd();
    }

    private boolean isDigit(int index) {
        return "0123456789".indexOf(text.charAt(index)) >= 0;
    }

    private int endOfPlaceThatCame(int viable) {
        List<String> came = new ArrayList<>();
        Matcher places = Pattern.compile("[0-9]+").matcher(text.substring(0, viable));
        while (places.find()) {
            boolean goesOn = places.end() == viable && viable < text.length() && isDigit(viable);
            if (came.contains(places.group()) && !goesOn) {
                return places.end();
            }
            came.add(places.group());
        }
        return -1;
    }

    int undo() {
        if (history.isEmpty()) {
            return -5;
        }
        store = history.removeLast();
        return history.size();
    }

    int keep() {
        snapshot = store.copy();
        return store.tickets.size();
    }

    int restore() {
        if (snapshot == null) {
            return -5;
        }
        act();
        store = snapshot.copy();
        return store.tickets.size();
    }

    int place(int place, int what) {
        if (noPlace(place)) {
            return -1;
        }
        switch (what) {
            case 0: return power(1)[place];
            case 1: return power(-1)[place];
            case 2: return round(place).size();
            case 3: return round(place).first();
            case 4:
                TreeSet<Integer> tickets = new TreeSet<>();
                for (int ticket = 0; ticket < store.tickets.size(); ticket++) {
                    if (store.tickets.get(ticket).holes.contains(place)) {
                        tickets.add(ticket);
                    }
                }
                return number(tickets);
            default: return -2;
        }
    }

    int move(int what) {
        int rounds = 0;
        int fixed = 0;
        int longest = 0;
        int unordered = 0;
        for (int place = 0; place < 24; place++) {
            TreeSet<Integer> round = round(place);
            rounds += round.first() == place ? 1 : 0;
            fixed += round.size() == 1 ? 1 : 0;
            longest = Math.max(longest, round.size());
            for (int other = place + 1; other < 24; other++) {
                unordered += store.move[other] < store.move[place] ? 1 : 0;
            }
        }
        int[] told = {powers().size(), rounds, fixed, longest, 1 - unordered % 2};
        return what < 0 || what >= told.length ? -2 : told[what];
    }

    int power(int place, int power) {
        if (noPlace(place)) {
            return -1;
        }
        return noPower(power) ? -2 : power(power)[place];
    }

    int ticket(int ticket, int what) {
        if (noTicket(ticket)) {
            return -1;
        }
        Ticket seen = store.tickets.get(ticket);
        TreeSet<Integer> forged = new TreeSet<>(seen.holes);
        forged.removeAll(seen.due);
        TreeSet<Integer> closed = new TreeSet<>(seen.due);
        closed.removeAll(seen.holes);
        switch (what) {
            case 0: return number(seen.holes);
            case 1: return number(seen.due);
            case 2: return number(forged);
            case 3: return number(closed);
            case 4: return seen.holes.size();
            case 5: return seen.holes.equals(seen.due) ? 0 : 1;
            case 6:
                int moves = 1;
                while (!image(seen.holes, power(moves)).equals(seen.holes)) {
                    moves++;
                }
                return moves;
            case 7: return seen.on ? 1 : 0;
            case 8: return seen.powers;
            default: return -2;
        }
    }

    int alikeIn(int ticket, int other) {
        if (noTicket(ticket) || noTicket(other)) {
            return -1;
        }
        for (int moves = 0; moves < powers().size(); moves++) {
            if (image(store.tickets.get(ticket).holes, power(moves)).equals(store.tickets.get(other).holes)) {
                return moves;
            }
        }
        return -5;
    }

    int meetsIn(int ticket, int other) {
        if (noTicket(ticket) || noTicket(other)) {
            return -1;
        }
        for (int moves = 0; moves < powers().size(); moves++) {
            TreeSet<Integer> both = image(store.tickets.get(ticket).holes, power(moves));
            both.retainAll(store.tickets.get(other).holes);
            if (!both.isEmpty()) {
                return moves;
            }
        }
        return -5;
    }

    int reason(int ticket, int other) {
        int alike = alikeIn(ticket, other);
        if (alike != -5) {
            return alike == -1 ? -1 : 0;
        }
        TreeSet<Integer> one = store.tickets.get(ticket).holes;
        TreeSet<Integer> two = store.tickets.get(other).holes;
        if (one.size() != two.size()) {
            return 1;
        }
        for (int place = 0; place < 24; place++) {
            TreeSet<Integer> left = new TreeSet<>(one);
            left.retainAll(round(place));
            TreeSet<Integer> right = new TreeSet<>(two);
            right.retainAll(round(place));
            if (left.size() != right.size()) {
                return 2;
            }
        }
        return 3;
    }

    int kin(int ticket) {
        if (noTicket(ticket)) {
            return -1;
        }
        TreeSet<Integer> kin = new TreeSet<>();
        for (int other = 0; other < store.tickets.size(); other++) {
            if (alikeIn(other, ticket) != -5) {
                kin.add(other);
            }
        }
        return number(kin);
    }

    private TreeSet<Integer> lightPlaces() {
        TreeSet<Integer> light = new TreeSet<>();
        for (int place = 0; place < 24; place++) {
            boolean falls = !stacked().isEmpty();
            for (Ticket ticket : stacked()) {
                falls &= ticket.holes.contains(place);
            }
            if (falls) {
                light.add(place);
            }
        }
        return light;
    }

    int light() {
        return number(lightPlaces());
    }

    int bestTurn(int ticket, int what) {
        if (noTicket(ticket)) {
            return -1;
        }
        if (what < 0 || what > 1) {
            return -2;
        }
        Ticket seen = store.tickets.get(ticket);
        if (!seen.on) {
            return -4;
        }
        TreeSet<Integer> holes = seen.holes;
        int best = 0;
        int most = -1;
        for (int power = 0; power < powers().size(); power++) {
            seen.holes = image(holes, power(power));
            int places = lightPlaces().size();
            if (places > most) {
                most = places;
                best = power;
            }
        }
        seen.holes = holes;
        return what == 0 ? best : most;
    }

    int count(int what) {
        int falseOnes = 0;
        int holes = 0;
        int due = 0;
        for (Ticket ticket : store.tickets) {
            falseOnes += ticket.holes.equals(ticket.due) ? 0 : 1;
            holes += ticket.holes.size();
            due += ticket.due.size();
        }
        int[] told = {store.tickets.size(), stacked().size(), falseOnes, holes, due, lightPlaces().size(),
            store.punched, store.frauds, store.turns, history.size(), text.length()};
        return what < 0 || what >= told.length ? -2 : told[what];
    }
}
