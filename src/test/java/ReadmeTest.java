import java.io.IOException;
import java.nio.file.Files;
import java.nio.file.Path;
import java.util.ArrayList;
import java.util.List;
import java.util.regex.Matcher;
import java.util.regex.Pattern;

/** The calls that README.md shows, one behind the other, answer what it says behind them. */
final class ReadmeTest {
    private static final Checks CHECKS = new Checks("ReadmeTest");
    private static final Pattern SHOWN = Pattern.compile("(?m)^x\\.(.+); +// (-?\\d+): ");

    private final List<String> shown = new ArrayList<>();
    private int made;

    public static void main(String[] args) throws IOException {
        ReadmeTest test = new ReadmeTest();
        Matcher matcher = SHOWN.matcher(Files.readString(Path.of("README.md")));
        while (matcher.find()) {
            test.shown.add(matcher.group(1) + " = " + matcher.group(2));
        }
        HoleTickets x = new HoleTickets();
        test.movesAndTickets(x);
        test.turnsAndLight(x);
        test.textsAndSnapshot(x);
        CHECKS.due("calls that README.md shows", test.shown.size(), test.made);
        CHECKS.finish();
    }

    private void made(String call, int got) {
        String wanted = made < shown.size() ? shown.get(made) : "nothing";
        CHECKS.same("README.md, call " + made, call + " = " + got, wanted);
        made++;
    }

    private void movesAndTickets(HoleTickets x) {
        made("sell(5)", x.sell(5));
        made("sell(10)", x.sell(10));
        made("alikeIn(0, 1)", x.alikeIn(0, 1));
        made("exchange(0, 12)", x.exchange(0, 12));
        made("alikeIn(0, 1)", x.alikeIn(0, 1));
        made("reason(0, 1)", x.reason(0, 1));
        made("undo()", x.undo());
    }

    private void turnsAndLight(HoleTickets x) {
        made("turn(0, -1)", x.turn(0, -1));
        made("forge(0, 5, true)", x.forge(0, 5, true));
        made("ticket(0, 2)", x.ticket(0, 2));
        made("mend(0)", x.mend(0));
        made("stack(0, true)", x.stack(0, true));
        made("stack(1, true)", x.stack(1, true));
        made("light()", x.light());
        made("bestTurn(0, 0)", x.bestTurn(0, 0));
        made("bestTurn(0, 1)", x.bestTurn(0, 1));
    }

    private void textsAndSnapshot(HoleTickets x) {
        made("keep()", x.keep());
        made("readMove()", x.readMove());
        made("type('(')", x.type('('));
        made("type('3')", x.type('3'));
        made("type(',')", x.type(','));
        made("type('3')", x.type('3'));
        made("fault(0)", x.fault(0));
        made("fault(1)", x.fault(1));
        made("type(')')", x.type(')'));
        made("readMove()", x.readMove());
        made("clearText()", x.clearText());
        made("restore()", x.restore());
        made("punch(0, 24)", x.punch(0, 24));
    }
}
