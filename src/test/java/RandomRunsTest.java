import java.util.Random;

/** All promises together: long runs of calls with odd arguments, each answer beside that of the model; the seeds are fixed. */
final class RandomRunsTest {
    private static final int RUNS = 240;
    private static final int CALLS = 512;
    private static final int CALLS_OF_A_TEXT = 80;
    private static final Checks CHECKS = new Checks("RandomRunsTest");

    private final Random chance;
    private final int run;
    private final HoleTickets x = new HoleTickets();
    private final Model model = new Model();
    private int calls;

    private RandomRunsTest(int run) {
        this.run = run;
        chance = new Random(run);
    }

    public static void main(String[] args) {
        for (int run = 0; run < RUNS && CHECKS.allAreDue(); run++) {
            new RandomRunsTest(run).make();
        }
        CHECKS.finish();
    }

    private void make() {
        while (calls < CALLS && CHECKS.allAreDue()) {
            int kind = chance.nextInt(100);
            if (kind < 45) {
                act(chance.nextInt(run % 3 == 0 ? 8 : 11));
            } else if (kind < 50 && calls + CALLS_OF_A_TEXT <= CALLS) {
                text();
            } else if (kind < 54) {
                history(chance.nextInt(8));
            } else {
                tell(chance.nextInt(12));
            }
        }
    }

    private void due(String call, int got, int want) {
        calls++;
        CHECKS.due("run " + run + ", call " + calls + ": " + call, got, want);
    }

    private int number(int below) {
        int kind = chance.nextInt(40);
        return kind == 0 ? -1 : kind == 1 ? below : kind == 2 ? chance.nextInt() : chance.nextInt(below);
    }

    private int ticket() {
        int sold = model.count(0);
        return number(Math.max(1, chance.nextInt(4) == 0 ? 12 : sold));
    }

    private int power() {
        switch (chance.nextInt(8)) {
            case 0: return model.move(0) * (chance.nextInt(9) - 4);
            case 1: return chance.nextInt(20003) - 10001;
            case 2: return (chance.nextBoolean() ? 1 : -1) * (9998 + chance.nextInt(3));
            case 3: return chance.nextInt(60) == 0 ? chance.nextInt() : 0;
            default: return chance.nextInt(61) - 30;
        }
    }

    private int holes() {
        int some = chance.nextInt(Checks.ALL + 1);
        switch (chance.nextInt(10)) {
            case 0: return number(Checks.ALL + 1);
            case 1: return Checks.ALL & ~(some & chance.nextInt(Checks.ALL + 1) & chance.nextInt(Checks.ALL + 1));
            case 2: return 1 << chance.nextInt(25);
            case 3: return chance.nextBoolean() ? 0 : Checks.ALL;
            case 4: case 5: return some & chance.nextInt(Checks.ALL + 1) & chance.nextInt(Checks.ALL + 1);
            case 6: return some;
            default: return Math.max(0, movedHoles());
        }
    }

    /** Holes that another ticket would have behind some moves, so that there are kin. */
    private int movedHoles() {
        int sold = model.count(0);
        int set = sold == 0 ? 5 : model.ticket(chance.nextInt(sold), 0);
        int power = chance.nextInt(800);
        int moved = 0;
        for (int place = 0; place < 24; place++) {
            if ((set >> place & 1) == 1) {
                moved |= 1 << model.power(place, power);
            }
        }
        return moved;
    }

    private void act(int which) {
        int ticket = ticket();
        int place = number(24);
        int other = chance.nextInt(20) == 0 ? place : number(24);
        int power = power();
        boolean way = chance.nextInt(3) > 0;
        switch (which) {
            case 0: case 1: {
                int holes = holes();
                due("sell(" + holes + ")", x.sell(holes), model.sell(holes));
                break;
            }
            case 2: due("punch(" + ticket + ", " + place + ")", x.punch(ticket, place), model.punch(ticket, place)); break;
            case 3:
                due("forge(" + ticket + ", " + place + ", " + way + ")", x.forge(ticket, place, way), model.forge(ticket, place, way));
                break;
            case 4: due("mend(" + ticket + ")", x.mend(ticket), model.mend(ticket)); break;
            case 5: due("turn(" + ticket + ", " + power + ")", x.turn(ticket, power), model.turn(ticket, power)); break;
            case 6: due("stack(" + ticket + ", " + way + ")", x.stack(ticket, way), model.stack(ticket, way)); break;
            case 7: due("turnStack(" + power + ")", x.turnStack(power), model.turnStack(power)); break;
            case 8: due("reverse()", x.reverse(), model.reverse()); break;
            case 9: due("exchange(" + place + ", " + other + ")", x.exchange(place, other), model.exchange(place, other)); break;
            default: due("readMove()", x.readMove(), model.readMove()); break;
        }
    }

    private void text() {
        if (chance.nextInt(4) > 0) {
            due("clearText()", x.clearText(), model.clearText());
        }
        for (char character : someText().toCharArray()) {
            due("type(" + (int) character + ")", x.type(character), model.type(character));
        }
        due("fault(0)", x.fault(0), model.fault(0));
        due("fault(1)", x.fault(1), model.fault(1));
        due("readMove()", x.readMove(), model.readMove());
    }

    private String someText() {
        StringBuilder text = new StringBuilder();
        java.util.List<Integer> places = new java.util.ArrayList<>();
        for (int place = 0; place < 24; place++) {
            places.add(place);
        }
        java.util.Collections.shuffle(places, chance);
        int used = 0;
        for (int rounds = 1 + chance.nextInt(6); rounds > 0 && used < 22; rounds--) {
            int length = Math.min(24 - used, 2 + chance.nextInt(rounds == 1 ? 9 : 5));
            for (int at = 0; at < length; at++) {
                text.append(at == 0 ? '(' : ',').append(places.get(used++));
            }
            text.append(')');
        }
        int signs = chance.nextInt(4);
        for (int change = chance.nextInt(3); change > 0; change--) {
            int index = chance.nextInt(text.length());
            char sign = signs == 0 ? (char) chance.nextInt(65536) : "0123456789(),0123 ".charAt(chance.nextInt(18));
            switch (chance.nextInt(3)) {
                case 0: text.setCharAt(index, sign); break;
                case 1: text.insert(index, sign); break;
                default: text.setLength(Math.max(1, index)); break;
            }
        }
        return text.toString();
    }

    private void history(int which) {
        switch (which) {
            case 0: due("keep()", x.keep(), model.keep()); break;
            case 1: due("restore()", x.restore(), model.restore()); break;
            default: due("undo()", x.undo(), model.undo()); break;
        }
    }

    private void tell(int which) {
        int ticket = ticket();
        int other = ticket();
        int place = number(24);
        int power = power();
        int pair = number(2);
        int five = number(5);
        int nine = number(9);
        int eleven = number(11);
        switch (which) {
            case 0: due("place(" + place + ", " + five + ")", x.place(place, five), model.place(place, five)); break;
            case 1: due("move(" + five + ")", x.move(five), model.move(five)); break;
            case 2: due("power(" + place + ", " + power + ")", x.power(place, power), model.power(place, power)); break;
            case 3: due("ticket(" + ticket + ", " + nine + ")", x.ticket(ticket, nine), model.ticket(ticket, nine)); break;
            case 4: due("alikeIn(" + ticket + ", " + other + ")", x.alikeIn(ticket, other), model.alikeIn(ticket, other)); break;
            case 5: due("meetsIn(" + ticket + ", " + other + ")", x.meetsIn(ticket, other), model.meetsIn(ticket, other)); break;
            case 6: due("reason(" + ticket + ", " + other + ")", x.reason(ticket, other), model.reason(ticket, other)); break;
            case 7: due("kin(" + ticket + ")", x.kin(ticket), model.kin(ticket)); break;
            case 8: due("light()", x.light(), model.light()); break;
            case 9: due("bestTurn(" + ticket + ", " + pair + ")", x.bestTurn(ticket, pair), model.bestTurn(ticket, pair)); break;
            case 10: due("fault(" + pair + ")", x.fault(pair), model.fault(pair)); break;
            default: due("count(" + eleven + ")", x.count(eleven), model.count(eleven)); break;
        }
    }
}
