import java.io.IOException;
import java.nio.file.Files;
import java.nio.file.Path;
import java.util.ArrayList;
import java.util.List;
import java.util.regex.Matcher;
import java.util.regex.Pattern;

/** The lines of README.md that tell an answer: all of them stand here, in their order, and hold. */
public final class ReadmeTest {
    private static final Due due = new Due("ReadmeTest");
    private static final Pattern LINE = Pattern.compile("(x\\..*); +// (-?[0-9]+)(:.*)?");
    private static final List<String> lines = new ArrayList<>();
    private static int next = 0;

    public static void main(String[] args) throws IOException {
        for (String told : Files.readAllLines(Path.of("README.md"))) {
            Matcher m = LINE.matcher(told);
            if (m.matches()) {
                lines.add(m.group(1) + " " + m.group(2));
            }
        }
        rings();
        DebtRings x = new DebtRings();
        payments(x);
        questions(x);
        imageAndTapes(x);
        due.is("so many lines are told", lines.size(), next);
        due.end();
    }

    private static void line(String call, long got, long want) {
        due.is(call, got, want);
        String told = next < lines.size() ? lines.get(next) : "";
        due.isTrue("README.md tells " + call + ", not " + told, told.equals(call + " " + want));
        next++;
    }

    private static void rings() {
        DebtRings x = new DebtRings();
        line("x.person()", x.person(), 0);
        line("x.person()", x.person(), 1);
        line("x.person()", x.person(), 2);
        line("x.owe(0, 1, 10)", x.owe(0, 1, 10), 10);
        line("x.owe(1, 2, 9)", x.owe(1, 2, 9), 9);
        line("x.pay(1, 2, 2)", x.pay(1, 2, 2), 7);
        line("x.owe(2, 0, 5)", x.owe(2, 0, 5), 5);
        line("x.of(1, 2, 2)", x.of(1, 2, 2), 1);
        line("x.ring(0, -1)", x.ring(0, -1), 3);
        line("x.ring(0, -2)", x.ring(0, -2), 5);
        line("x.cut(0, 40)", x.cut(0, 40), 1);
        line("x.trail(0, 2)", x.trail(0, 2), 5);
        line("x.debt(1, 2)", x.debt(1, 2), 2);
    }

    private static void payments(DebtRings x) {
        Setups.feedAll(x, "p;p;p;o0112;o125;n01");
        line("x.read()", x.read(), 6);
        line("x.balance(0)", x.balance(0), -12);
        line("x.group(0)", x.group(0), 7);
        line("x.told(8)", x.told(8), 2);
        line("x.payment(1, 0)", x.payment(1, 0), 0);
        line("x.payment(1, 1)", x.payment(1, 1), 2);
        line("x.payment(1, 2)", x.payment(1, 2), 5);
        line("x.told(9)", x.told(9), 1);
        line("x.willing(0, 1)", x.willing(0, 1), 2);
        line("x.told(11)", x.told(11), 7);
        line("x.without(2)", x.without(2), 1);
    }

    private static void questions(DebtRings x) {
        line("x.see(0, 1, 7)", x.see(0, 1, 7), 1);
        line("x.fits(1, 2, 0)", x.fits(1, 2, 0), 1);
        line("x.fits(1, 2, 1)", x.fits(1, 2, 1), 5);
        line("x.odds(2, 0, 0)", x.odds(2, 0, 0), 9);
        line("x.odds(2, 0, 1)", x.odds(2, 0, 1), 10);
        line("x.mean(0)", x.mean(0), 17);
        line("x.mean(1)", x.mean(1), 2);
        line("x.event(0, 1)", x.event(0, 1), 1);
        line("x.after(0)", x.after(0), 12);
        line("x.book(0, 1, 7)", x.book(0, 1, 7), 1);
        line("x.book(0, 2, 6)", x.book(0, 2, 6), 2);
        line("x.looked()", x.looked(), 1);
    }

    private static void imageAndTapes(DebtRings x) {
        line("x.image()", x.image(), 3);
        line("x.settle()", x.settle(), 2);
        line("x.debt(1, 0)", x.debt(1, 0), 0);
        line("x.undo()", x.undo(), 3);
        line("x.debt(1, 0)", x.debt(1, 0), 1);
        line("x.tape(0, 3, 2)", x.tape(0, 3, 2), 1);
        line("x.item(0, 0, 1007)", x.item(0, 0, 1007), 1);
        line("x.item(0, 1, 2006)", x.item(0, 1, 2006), 1);
        line("x.judge(0, 0)", x.judge(0, 0), 1);
        line("x.tape(1, 3, 3)", x.tape(1, 3, 3), 1);
        line("x.shift(0, 0, 1, 1, 2)", x.shift(0, 0, 1, 1, 2), 2);
        line("x.peek(1, 2)", x.peek(1, 2), 2006);
        line("x.count(0)", x.count(0), 1);
        line("x.forget()", x.forget(), 0);
    }
}
