import java.util.ArrayList;
import java.util.List;
import java.util.function.Supplier;
import java.util.function.ToLongFunction;

/**
 * "What is answered so changes nothing; what is asked changes nothing": behind each refusal of each
 * call, and behind each question, all that can be asked is as it is of an object made likewise that
 * was not called.
 */
public final class UnchangedTest {
    private static final int NONE = -1, BAD = -2, STATE = -3, FULL = -4;
    private static final int NOTHING = -11, CAST = -12, PLACE = -13, SIZE = -14;
    private static final int FAR = Integer.MAX_VALUE, BELOW = Integer.MIN_VALUE;
    private static final int PARTS = 9;
    private static final Due due = new Due("UnchangedTest");

    /** Objects made the same way, and all that can be asked of those that are not called. */
    private static final class Same {
        private final String name;
        private final Supplier<DebtRings> maker;
        private final List<List<Long>> uncalled = new ArrayList<>();

        Same(String name, Supplier<DebtRings> maker) {
            this.name = name;
            this.maker = maker;
            for (int part = 0; part < PARTS; part++) {
                uncalled.add(partOf(part, maker.get()));
            }
        }

        void behind(String call, long answer, ToLongFunction<DebtRings> called) {
            due.is(name + ", " + call, called.applyAsLong(maker.get()), answer);
            asked(call, called);
        }

        /** Each part is asked of an object of its own, so that no other question comes between. */
        void asked(String call, ToLongFunction<DebtRings> called) {
            for (int part = 0; part < PARTS; part++) {
                DebtRings x = maker.get();
                called.applyAsLong(x);
                List<Long> now = partOf(part, x);
                int same = 0;
                while (same < now.size() && now.get(same).equals(uncalled.get(part).get(same))) {
                    same++;
                }
                due.is(name + ", answers of part " + part + " that are the same behind " + call, same, now.size());
            }
        }
    }

    private static final Same RICH = new Same("rich", UnchangedTest::rich);
    private static final Same ALL_FULL = new Same("full", UnchangedTest::full);
    private static final Same NO_TEXT = new Same("no text", UnchangedTest::noText);
    private static final Same HEAVY = new Same("heavy", UnchangedTest::heavy);
    private static final Same NO_IMAGE = new Same("no image", UnchangedTest::noImage);
    private static final Same LONG_TEXT = new Same("long text", UnchangedTest::longText);
    private static final Same NEW = new Same("new", DebtRings::new);

    public static void main(String[] args) {
        due.sentence(0, "What is answered so changes nothing");
        peopleAndDebts();
        texts();
        rings();
        payments();
        toldByHand();
        tapes();
        due.sentence(0, "what is asked changes nothing");
        askedOfDebts(RICH);
        askedOfDebts(ALL_FULL);
        askedOfRest(RICH);
        askedOfRest(ALL_FULL);
        due.end();
    }

    // ---- the objects

    /** Six people, some of everything, and an image of something else. */
    private static DebtRings rich() {
        DebtRings x = Setups.owing(6, 5, 4, 9);
        x.consent(3, 4, false);
        x.image();
        int[] rows = {0, 1, 5, 1, 0, 3, 1, 2, 8, 2, 3, 8, 3, 1, 9, 4, 0, 6};
        for (int r = 0; r < rows.length; r += 3) {
            x.owe(rows[r], rows[r + 1], rows[r + 2]);
        }
        x.cut(1, 1);
        x.consent(0, 1, false);
        x.consent(4, 1, false);
        x.see(5, 0, 2);
        x.event(0, 5);
        x.event(2, 0);
        x.book(5, 0, 2);
        x.book(3, 1, 9);
        Setups.feedAll(x, "o321;c0");
        x.tape(0, 3, 3);
        x.item(0, 0, 50002);
        x.item(0, 2, -7);
        x.tape(1, 0, 2);
        x.item(1, 1, 200);
        return x;
    }

    /** All that can be full, but for the text; no image, no tapes. */
    private static DebtRings noText() {
        DebtRings x = Setups.trailOf(40);
        for (int p = 2; p < 6; p++) {
            x.person();
        }
        Setups.oweAll(x, 0, 1, 999);
        x.owe(1, 0, 3);
        x.owe(2, 3, 4);
        x.owe(3, 2, 4);
        for (int k = 0; k < 8; k++) {
            x.see(0, 1, 996);
            x.event(2, k % 4);
            x.book(0, 1, 996);
        }
        return x;
    }

    /** The same with a text, tapes, and an image that is otherwise. */
    private static DebtRings full() {
        DebtRings x = noText();
        x.image();
        x.consent(2, 4, false);
        x.pay(1, 0, 1);
        Setups.feedAll(x, "n20;y24");
        for (int tape = 0; tape < 6; tape++) {
            x.tape(tape, 3, 3);
            x.item(tape, 1, 77 + tape);
        }
        return x;
    }

    /** A payment of 1000, and an image, a text and tapes. */
    private static DebtRings heavy() {
        DebtRings x = Setups.owing(3, 0, 2, 1, 0, 1, 999);
        x.image();
        x.owe(2, 1, 1);
        x.see(0, 1, 9);
        x.event(2, 0);
        x.book(0, 1, 9);
        Setups.feedAll(x, "p");
        x.tape(0, 3, 1);
        x.tape(1, 0, 2);
        return x;
    }

    private static DebtRings noImage() {
        DebtRings x = Setups.owing(3, 0, 2, 5);
        x.cut(0, 1);
        x.see(0, 1, 9);
        x.event(2, 0);
        x.book(0, 1, 9);
        Setups.feedAll(x, "p");
        x.tape(0, 3, 1);
        x.tape(1, 0, 2);
        return x;
    }

    private static DebtRings longText() {
        DebtRings x = Setups.people(1);
        for (int k = 0; k < 100; k++) {
            x.feed(k % 2 == 0 ? 'p' : ';');
        }
        return x;
    }

    // ---- all that can be asked

    private static List<Long> partOf(int part, DebtRings x) {
        List<Long> all = new ArrayList<>();
        switch (part) {
            case 0: addTold(x, all); break;
            case 1: addPairs(x, all); break;
            case 2: addRings(x, all); break;
            case 3: addPayments(x, all); break;
            case 4: addToldByHand(x, all); break;
            case 5: addTapes(x, all); break;
            case 6: addJudged(x, all); break;
            case 7:
                // What THE TEXT and THE IMAGE hold is seen when they are used.
                all.add((long) x.read());
                addTold(x, all);
                break;
            default:
                all.add((long) x.undo());
                addTold(x, all);
                addPairs(x, all);
                break;
        }
        return all;
    }

    private static void addTold(DebtRings x, List<Long> all) {
        for (int what = 0; what < 12; what++) {
            all.add((long) x.told(what));
        }
        for (int what = 0; what < 4; what++) {
            all.add((long) x.count(what));
        }
    }

    private static void addPairs(DebtRings x, List<Long> all) {
        for (int i = 0; i < 6; i++) {
            for (int j = 0; j < 6; j++) {
                if (i != j) {
                    all.add(x.of(i, j, 0) + 1000L * x.of(i, j, 1));
                    all.add((long) x.of(i, j, 2));
                }
            }
        }
    }

    private static void addRings(DebtRings x, List<Long> all) {
        for (int what = 0; what < 3; what++) {
            all.add((long) x.trail(0, what));
            all.add((long) x.trail(39, what));
        }
        for (int rule = 0; rule < 4; rule++) {
            for (int k = -2; k < 3; k++) {
                all.add((long) x.ring(rule, k));
            }
        }
    }

    private static void addPayments(DebtRings x, List<Long> all) {
        for (int k = 0; k < 3; k++) {
            all.add((long) x.group(k));
            for (int what = 0; what < 3; what++) {
                all.add((long) x.payment(k, what));
                all.add((long) x.willing(k, what));
            }
        }
    }

    private static void addToldByHand(DebtRings x, List<Long> all) {
        all.add((long) x.fits(0, 1, 0));
        all.add((long) x.fits(5, 4, 1));
        all.add(x.odds(0, 1, 0));
        all.add(x.mean(0));
        all.add(x.mean(1));
        all.add((long) x.looked());
        for (int what = 0; what < 3; what++) {
            all.add((long) x.after(what));
        }
    }

    private static void addTapes(DebtRings x, List<Long> all) {
        for (int tape = 0; tape < 6; tape++) {
            for (int i = 0; i < 4; i++) {
                all.add(x.peek(tape, i));
            }
        }
    }

    private static void addJudged(DebtRings x, List<Long> all) {
        for (int tape = 0; tape < 6; tape++) {
            all.add((long) x.judge(tape, 0));
            all.add((long) x.judge(tape, 1));
        }
    }

    // ---- refusals

    private static void peopleAndDebts() {
        RICH.behind("person()", FULL, x -> x.person());
        int[] nobody = {BELOW, -2, -1, 6, FAR};
        for (int p : nobody) {
            RICH.behind("owe i", NONE, x -> x.owe(p, 1, 1));
            RICH.behind("owe j", NONE, x -> x.owe(1, p, 1));
            RICH.behind("pay i", NONE, x -> x.pay(p, 1, 1));
            RICH.behind("pay j", NONE, x -> x.pay(1, p, 1));
            RICH.behind("consent i", NONE, x -> x.consent(p, 1, false));
            RICH.behind("consent j", NONE, x -> x.consent(1, p, false));
        }
        RICH.behind("owe oneself", NONE, x -> x.owe(3, 3, 1));
        RICH.behind("pay oneself", NONE, x -> x.pay(3, 3, 1));
        RICH.behind("consent to oneself", NONE, x -> x.consent(3, 3, false));
        for (int n : new int[] {BELOW, -1, 0, 100, FAR}) {
            RICH.behind("owe n", BAD, x -> x.owe(0, 1, n));
            RICH.behind("pay n", BAD, x -> x.pay(0, 1, n));
        }
        RICH.behind("pay too much", STATE, x -> x.pay(0, 1, 6));
        RICH.behind("pay nothing owed", STATE, x -> x.pay(0, 5, 1));
        ALL_FULL.behind("owe above 999", FULL, x -> x.owe(0, 1, 1));
        HEAVY.behind("owe above 999", FULL, x -> x.owe(0, 1, 99));
        RICH.behind("consent, as it is", 1, x -> x.consent(0, 2, true));
        RICH.behind("consent not, as it is", 0, x -> x.consent(0, 1, false));
        NEW.behind("owe", NONE, x -> x.owe(0, 1, 1));
        NEW.behind("consent", NONE, x -> x.consent(0, 1, false));
    }

    private static void texts() {
        RICH.behind("feed -1", BAD, x -> x.feed(-1));
        RICH.behind("feed 128", BAD, x -> x.feed(128));
        LONG_TEXT.behind("feed", FULL, x -> x.feed('p'));
        LONG_TEXT.behind("feed 128", BAD, x -> x.feed(128));
        NO_TEXT.behind("an empty text", -10, x -> x.read());
        NO_TEXT.behind("a fault", -22, x -> Setups.readAll(x, "o105;n23;y01x"));
        NO_TEXT.behind("a fault at the end", -20, x -> Setups.readAll(x, "o105;n23;y"));
        NO_TEXT.behind("clauses that are refused", 0, x -> Setups.readAll(x, "p;o011;c0;c3;c9;n77;y00"));
    }

    private static void rings() {
        for (int rule : new int[] {BELOW, -1, 4, FAR}) {
            RICH.behind("cut rule", BAD, x -> x.cut(rule, 1));
        }
        for (int n : new int[] {BELOW, -1, 41, FAR}) {
            RICH.behind("cut n", BAD, x -> x.cut(0, n));
        }
        for (int rule = 0; rule < 4; rule++) {
            int by = rule;
            RICH.behind("cut none", 0, x -> x.cut(by, 0));
            ALL_FULL.behind("cut, the trail is full", 0, x -> x.cut(by, 40));
            HEAVY.behind("cut, no ring", 0, x -> x.cut(by, 40));
        }
        RICH.behind("cut, none is agreed", 0, x -> x.cut(3, 40));
        HEAVY.behind("forget nothing", 0, x -> x.forget());
    }

    private static void payments() {
        HEAVY.behind("settle()", STATE, x -> x.settle());
        NEW.behind("settle()", 0, x -> x.settle());
        NEW.behind("undo()", STATE, x -> x.undo());
        NO_TEXT.behind("undo()", STATE, x -> x.undo());
        NO_IMAGE.behind("undo()", STATE, x -> x.undo());
    }

    private static void toldByHand() {
        for (int p : new int[] {BELOW, -2, 6, FAR}) {
            RICH.behind("see i", NONE, x -> x.see(p, 1, 1));
            RICH.behind("book i", NONE, x -> x.book(p, 1, 1));
        }
        for (int p : new int[] {BELOW, -1, 2, 6, FAR}) {
            RICH.behind("see j", NONE, x -> x.see(2, p, 1));
            RICH.behind("book j", NONE, x -> x.book(2, p, 1));
        }
        for (int n : new int[] {BELOW, -1, 0, 1000, FAR}) {
            RICH.behind("see n", BAD, x -> x.see(0, 1, n));
            RICH.behind("book n", BAD, x -> x.book(0, 1, n));
        }
        ALL_FULL.behind("see", FULL, x -> x.see(2, 3, 7));
        ALL_FULL.behind("book", FULL, x -> x.book(2, 3, 7));
        for (int what : new int[] {BELOW, -2, 4, FAR}) {
            RICH.behind("event what", NONE, x -> x.event(what, 0));
        }
        for (int n : new int[] {BELOW, -1, 6, FAR}) {
            RICH.behind("event 0 n", NONE, x -> x.event(0, n));
            RICH.behind("event 1 n", NONE, x -> x.event(1, n));
            RICH.behind("event 2 n", BAD, x -> x.event(2, n));
        }
        for (int what = 0; what < 4; what++) {
            int by = what;
            ALL_FULL.behind("event", FULL, x -> x.event(by, 0));
        }
    }

    private static void tapes() {
        for (int tape : new int[] {BELOW, -1, 6, FAR}) {
            RICH.behind("tape", NONE, x -> x.tape(tape, 0, 1));
            RICH.behind("no tape", NONE, x -> x.tape(tape, -1, 1));
            RICH.behind("item", NONE, x -> x.item(tape, 0, 1));
            RICH.behind("shift from", NONE, x -> x.shift(tape, 0, 0, 0, 1));
            RICH.behind("shift to", NONE, x -> x.shift(0, 0, tape, 1, 1));
        }
        for (int sort : new int[] {BELOW, -2, 5, FAR}) {
            RICH.behind("tape sort", BAD, x -> x.tape(0, sort, 1));
        }
        RICH.behind("tape n 61", BAD, x -> x.tape(0, 3, 61));
        RICH.behind("tape n far", BAD, x -> x.tape(0, 3, FAR));
        RICH.behind("tape n -1", SIZE, x -> x.tape(0, 3, -1));
        RICH.behind("tape n below", SIZE, x -> x.tape(0, 3, BELOW));
        RICH.behind("item of nothing", NOTHING, x -> x.item(5, 0, 1));
        for (int i : new int[] {BELOW, -1, 3, FAR}) {
            RICH.behind("item i", PLACE, x -> x.item(0, i, 1));
            RICH.behind("shift i", PLACE, x -> x.shift(0, i, 0, 1, 1));
            RICH.behind("shift j", PLACE, x -> x.shift(0, 0, 0, i, 1));
            RICH.behind("shift n", PLACE, x -> x.shift(0, 0, 0, 1, i));
        }
        RICH.behind("shift nothing", NOTHING, x -> x.shift(5, 0, 0, 0, 1));
        RICH.behind("shift to nothing", NOTHING, x -> x.shift(0, 0, 5, 0, 1));
        RICH.behind("shift to another sort", CAST, x -> x.shift(0, 0, 1, 0, 1));
        RICH.behind("shift none", 0, x -> x.shift(0, 0, 0, 3, 0));
        RICH.behind("shift to itself", 3, x -> x.shift(0, 0, 0, 0, 3));
    }

    // ---- questions

    private static void askedOfDebts(Same same) {
        for (int number = -1; number <= 6; number++) {
            int k = number;
            for (int w = -1; w <= 3; w++) {
                int what = w;
                for (int j : new int[] {0, 3, 6}) {
                    same.asked("of", x -> x.of(k, j, what));
                    same.asked("fits", x -> x.fits(k, j, what));
                    same.asked("odds", x -> x.odds(k, j, what));
                }
                same.asked("debt", x -> x.debt(k, what));
                same.asked("payment", x -> x.payment(k, what));
                same.asked("willing", x -> x.willing(k, what));
                same.asked("trail", x -> x.trail(k, what));
            }
            same.asked("balance", x -> x.balance(k));
            same.asked("without", x -> x.without(k));
            same.asked("group", x -> x.group(k));
        }
    }

    private static void askedOfRest(Same same) {
        for (int rule = -1; rule <= 4; rule++) {
            int by = rule;
            for (int k : new int[] {BELOW, -3, -2, -1, 0, 1, 5, FAR}) {
                same.asked("ring", x -> x.ring(by, k));
            }
        }
        for (int what = -1; what <= 12; what++) {
            int asked = what;
            same.asked("told", x -> x.told(asked));
            same.asked("count", x -> x.count(asked));
            same.asked("mean", x -> x.mean(asked));
            same.asked("after", x -> x.after(asked));
        }
        same.asked("looked", x -> x.looked());
        for (int tape = -1; tape <= 6; tape++) {
            int asked = tape;
            for (int i : new int[] {BELOW, -1, 0, 2, 3, FAR}) {
                same.asked("judge", x -> x.judge(asked, i));
                same.asked("peek", x -> x.peek(asked, i));
            }
        }
    }
}
