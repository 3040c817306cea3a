/** Promises 29 to 36: judging, the image, counts, tapes. */
public final class TapesTest {
    private static final int NOTHING = -11, CAST = -12, PLACE = -13, SIZE = -14;
    private static final Due due = new Due("TapesTest");

    public static void main(String[] args) {
        judge();
        judgeWithoutPayments();
        image();
        undo();
        undoKeepsTextAndTapes();
        count();
        tape();
        item();
        peek();
        shift();
        shiftRefused();
        due.end();
    }

    private static void judge() {
        due.promise(29);
        // Payments: 0 to 1 of 5, 2 to 3 of 66, 4 to 5 of 777.
        DebtRings x = Setups.owing(6, 0, 1, 5, 2, 3, 66, 4, 5, 777);
        due.is("tape -1", x.judge(-1, 0), -1);
        due.is("tape 6", x.judge(6, 0), -1);
        due.is("nothing there", x.judge(0, 0), 100);
        due.is("nothing there, below 0", x.judge(0, -1), 100);
        x.tape(0, 3, 5);
        due.is("zeros", x.judge(0, 0), 0);
        x.item(0, 1, 1005);
        due.is("the first is right", x.judge(0, 1), 1);
        x.item(0, 2, 23066);
        due.is("the second is right", x.judge(0, 1), 2);
        x.item(0, 3, 45777);
        due.is("all are right", x.judge(0, 1), -5);
        due.is("from another place on", x.judge(0, 0), 0);
        due.is("from the second on", x.judge(0, 2), 0);
        x.item(0, 3, 1005);
        x.item(0, 4, 23066);
        due.is("the row ends", x.judge(0, 3), 102);
        x.item(0, 4, 1005);
        due.is("the row ends", x.judge(0, 4), 101);
        due.is("behind the end", x.judge(0, 5), 100);
        due.is("far behind the end", x.judge(0, Integer.MAX_VALUE), 100);
        due.is("below 0", x.judge(0, -1), 100);
        due.is("far below 0", x.judge(0, Integer.MIN_VALUE), 100);
        x.item(0, 4, 1005L + (1L << 32));
        due.is("all of a long counts", x.judge(0, 4), 0);
        for (int sort = 0; sort <= 4; sort++) {
            x.tape(1, sort, 3);
            due.is("sort " + sort, x.judge(1, 0), sort == 3 ? 0 : CAST);
        }
        x.tape(1, 3, 0);
        due.is("a row of none", x.judge(1, 0), 100);
    }

    private static void judgeWithoutPayments() {
        DebtRings x = Setups.people(2);
        due.is("no payments, nothing there", x.judge(0, 0), -5);
        due.is("no payments, below 0", x.judge(0, -1), -5);
        x.tape(0, 3, 2);
        due.is("no payments", x.judge(0, 0), -5);
        due.is("no payments, behind the end", x.judge(0, 7), -5);
        x.tape(0, 2, 2);
        due.is("CAST goes ahead", x.judge(0, 0), CAST);
        due.is("NONE goes ahead", x.judge(7, 0), -1);
    }

    private static void image() {
        due.promise(30);
        DebtRings x = new DebtRings();
        due.is("nobody", x.image(), 0);
        x.person();
        x.person();
        due.is("two", x.image(), 2);
        x.person();
        due.is("the newest counts", x.undo(), 2);
        due.is("told 0", x.told(0), 2);
        DebtRings y = new DebtRings();
        y.image();
        y.person();
        due.is("an image of nobody is one", y.undo(), 0);
        due.is("nobody", y.told(0), 0);
    }

    private static void undo() {
        due.promise(31);
        DebtRings x = Setups.owing(4, 2, 3, 9, 0, 1, 4, 1, 0, 4);
        due.is("there is none", x.undo(), -3);
        x.cut(1, 1);
        x.owe(1, 0, 7);
        x.consent(0, 1, false);
        x.see(2, 3, 9);
        x.event(0, 2);
        x.book(2, 3, 9);
        x.image();
        x.person();
        x.pay(2, 3, 9);
        x.owe(0, 4, 5);
        x.owe(2, 3, 8);
        x.consent(0, 1, true);
        x.consent(0, 4, false);
        x.owe(4, 0, 5);
        x.cut(0, 1);
        x.forget();
        x.see(-1, 0, 0);
        x.see(0, 4, 1);
        x.see(0, 4, 1);
        x.event(-1, 0);
        x.event(1, 4);
        x.event(1, 4);
        x.book(-1, 0, 0);
        for (int times = 0; times < 2; times++) {
            due.is("undo", x.undo(), 4);
            due.is("told 0", x.told(0), 4);
            due.is("told 1", x.told(1), 2);
            due.is("of 2 3", x.of(2, 3, 0), 9);
            due.is("the order", x.of(2, 3, 2), 0);
            due.is("the order", x.of(1, 0, 2), 1);
            due.is("a consent", x.of(0, 1, 1), 0);
            due.is("the trail", x.told(3), 1);
            due.is("the trail's row", x.trail(0, 2), 4);
            due.is("seen", x.count(0), 1);
            due.is("seen fits", x.fits(2, 3, 1), 9);
            due.is("events", x.count(1), 1);
            due.is("after them", x.after(0), 7);
            due.is("book", x.count(2), 1);
            due.is("looked", x.looked(), -5);
            x.person();
            due.is("a new one consents to all", x.of(0, 4, 1), 1);
            due.is("a new one is owed nothing", x.of(0, 4, 0), 0);
            x.consent(0, 4, false);
            x.owe(0, 4, 3);
        }
    }

    private static void undoKeepsTextAndTapes() {
        DebtRings x = Setups.people(1);
        x.tape(0, 2, 3);
        x.item(0, 1, 7);
        x.image();
        x.feed('p');
        x.item(0, 1, 8);
        x.tape(1, 2, 3);
        x.undo();
        due.is("the text stays", x.count(3), 1);
        due.is("tapes stay", x.peek(0, 1), 8);
        due.is("tapes stay", x.peek(1, 1), 0);
        due.is("the text is read", x.read(), 1);
        x.image();
        due.is("undo", x.undo(), 2);
    }

    private static void count() {
        due.promise(32);
        DebtRings x = Setups.people(2);
        x.see(0, 1, 1);
        x.see(0, 1, 2);
        x.see(0, 1, 3);
        x.event(3, 0);
        x.event(3, 0);
        x.book(0, 1, 1);
        for (int k = 0; k < 4; k++) {
            x.feed(k);
        }
        due.is("count 0", x.count(0), 3);
        due.is("count 1", x.count(1), 2);
        due.is("count 2", x.count(2), 1);
        due.is("count 3", x.count(3), 4);
        due.is("count -1", x.count(-1), -2);
        due.is("count 4", x.count(4), -2);
    }

    private static void tape() {
        due.promise(33);
        DebtRings x = new DebtRings();
        due.is("tape -1", x.tape(-1, 0, 1), -1);
        due.is("tape 6", x.tape(6, 0, 1), -1);
        due.is("NONE ahead of all", x.tape(6, 9, -1), -1);
        due.is("sort -2", x.tape(0, -2, 1), -2);
        due.is("sort 5", x.tape(0, 5, 1), -2);
        due.is("BAD ahead of SIZE", x.tape(0, 5, -1), -2);
        due.is("n 61", x.tape(0, 0, 61), -2);
        due.is("n -1", x.tape(0, 0, -1), SIZE);
        due.is("n far below", x.tape(0, 0, Integer.MIN_VALUE), SIZE);
        due.is("n far above", x.tape(0, 0, Integer.MAX_VALUE), -2);
        due.is("nothing there", x.item(0, 0, 1), NOTHING);
        for (int sort = 0; sort <= 4; sort++) {
            due.is("n 60", x.tape(5, sort, 60), 1);
            due.is("the last", x.peek(5, 59), 0);
            due.is("behind it", x.item(5, 60, 1), PLACE);
            due.is("item", x.item(5, 59, 1), 1);
        }
        due.is("n 0", x.tape(5, 2, 0), 1);
        due.is("no place", x.item(5, 0, 1), PLACE);
        due.is("n 60", x.tape(5, 2, 60), 1);
        due.is("all 0 again", x.peek(5, 59), 0);
        for (int i = 0; i < 60; i++) {
            x.item(5, i, i + 1);
        }
        x.tape(5, 3, 60);
        for (int i = 0; i < 60; i++) {
            due.is("all 0 again, " + i, x.peek(5, i), 0);
        }
        x.item(5, 3, 9);
        due.is("refused", x.tape(5, 2, -1), SIZE);
        due.is("nothing changed", x.peek(5, 3), 9);
        due.is("holds nothing, n below", x.tape(5, -1, -9), 1);
        due.is("nothing there", x.item(5, 0, 1), NOTHING);
        due.is("holds nothing, n above", x.tape(5, -1, 99), 1);
    }

    private static void item() {
        due.promise(34);
        DebtRings x = new DebtRings();
        due.is("tape 6", x.item(6, 0, 1), -1);
        due.is("tape -1", x.item(-1, 0, 1), -1);
        due.is("NOTHING ahead of PLACE", x.item(0, -1, 1), NOTHING);
        x.tape(0, 0, 2);
        due.is("place -1", x.item(0, -1, 1), PLACE);
        due.is("place 2", x.item(0, 2, 1), PLACE);
        due.is("place far off", x.item(0, Integer.MIN_VALUE, 1), PLACE);
        long v = 0x123456789ABCDEF0L;
        itemBecomes(x, 0, 127, 127);
        itemBecomes(x, 0, 128, -128);
        itemBecomes(x, 0, v, (byte) 0xF0);
        itemBecomes(x, 1, 32767, 32767);
        itemBecomes(x, 1, 32768, -32768);
        itemBecomes(x, 1, v, (short) 0xDEF0);
        itemBecomes(x, 2, 1L << 31, Integer.MIN_VALUE);
        itemBecomes(x, 2, 1L << 32, 0);
        itemBecomes(x, 2, v, 0x9ABCDEF0);
        itemBecomes(x, 3, v, v);
        itemBecomes(x, 3, Long.MAX_VALUE, Long.MAX_VALUE);
        itemBecomes(x, 4, 0, 0);
        itemBecomes(x, 4, 1, 1);
        itemBecomes(x, 4, 2, 1);
        itemBecomes(x, 4, 1L << 40, 1);
        itemBecomes(x, 4, Long.MIN_VALUE, 1);
    }

    private static void itemBecomes(DebtRings x, int sort, long v, long then) {
        x.tape(0, sort, 3);
        due.is("item", x.item(0, 1, v), 1);
        due.is("peek of sort " + sort, x.peek(0, 1), then);
        due.is("the one ahead", x.peek(0, 0), 0);
        due.is("the one behind", x.peek(0, 2), 0);
    }

    private static void peek() {
        due.promise(35);
        DebtRings x = new DebtRings();
        due.is("nothing there", x.peek(0, 0), Long.MIN_VALUE);
        due.is("tape -1", x.peek(-1, 0), Long.MIN_VALUE);
        due.is("tape 6", x.peek(6, 0), Long.MIN_VALUE);
        x.tape(0, 3, 2);
        x.item(0, 1, 5);
        due.is("peek", x.peek(0, 1), 5);
        due.is("place -1", x.peek(0, -1), Long.MIN_VALUE);
        due.is("place 2", x.peek(0, 2), Long.MIN_VALUE);
        x.tape(0, -1, 0);
        due.is("nothing there any more", x.peek(0, 1), Long.MIN_VALUE);
        due.is("not even at 0", x.peek(0, 0), Long.MIN_VALUE);
    }

    private static void shift() {
        due.promise(36);
        DebtRings x = numbered();
        due.is("to another one", x.shift(0, 1, 1, 2, 3), 3);
        tapeIs(x, 1, 0, 0, 2, 3, 4, 0);
        tapeIs(x, 0, 1, 2, 3, 4, 5);
        x = numbered();
        due.is("to the same, behind", x.shift(0, 0, 0, 1, 4), 4);
        tapeIs(x, 0, 1, 1, 2, 3, 4);
        x = numbered();
        due.is("to the same, ahead", x.shift(0, 1, 0, 0, 4), 4);
        tapeIs(x, 0, 2, 3, 4, 5, 5);
        x = numbered();
        due.is("none", x.shift(0, 5, 1, 6, 0), 0);
        due.is("all", x.shift(0, 0, 1, 1, 5), 5);
        tapeIs(x, 1, 0, 1, 2, 3, 4, 5);
        for (int sort = 0; sort <= 4; sort++) {
            x.tape(2, sort, 2);
            x.tape(3, sort, 2);
            x.item(2, 0, 1);
            due.is("of sort " + sort, x.shift(2, 0, 3, 1, 1), 1);
            due.is("it came", x.peek(3, 1), 1);
        }
    }

    private static void shiftRefused() {
        DebtRings x = numbered();
        due.is("tape -1", x.shift(-1, 0, 1, 0, 1), -1);
        due.is("tape 6", x.shift(6, 0, 1, 0, 1), -1);
        due.is("other -1", x.shift(0, 0, -1, 0, 1), -1);
        due.is("other 6", x.shift(0, 0, 6, 0, 1), -1);
        due.is("NONE ahead of NOTHING", x.shift(5, 0, 6, 0, 1), -1);
        due.is("nothing here", x.shift(5, 0, 1, 0, 1), NOTHING);
        due.is("nothing there", x.shift(1, 0, 5, 0, 1), NOTHING);
        due.is("NOTHING ahead of PLACE", x.shift(5, -1, 1, 0, 1), NOTHING);
        x.tape(2, 3, 5);
        due.is("unlike sorts", x.shift(0, 0, 2, 0, 1), CAST);
        due.is("CAST ahead of PLACE", x.shift(0, -1, 2, 0, 1), CAST);
        due.is("unlike sorts, none", x.shift(0, 0, 2, 0, 0), CAST);
        due.is("n below 0", x.shift(0, 0, 1, 0, -1), PLACE);
        due.is("i below 0", x.shift(0, -1, 1, 0, 1), PLACE);
        due.is("j below 0", x.shift(0, 0, 1, -1, 1), PLACE);
        due.is("beyond this end", x.shift(0, 3, 1, 0, 3), PLACE);
        due.is("beyond the other's end", x.shift(0, 0, 1, 2, 5), PLACE);
        due.is("none, beyond this end", x.shift(0, 6, 1, 0, 0), PLACE);
        due.is("none, beyond the other's end", x.shift(0, 0, 1, 7, 0), PLACE);
        due.is("far beyond", x.shift(0, 1, 1, 0, Integer.MAX_VALUE), PLACE);
        due.is("far beyond", x.shift(0, Integer.MAX_VALUE, 1, 0, 1), PLACE);
        due.is("far below", x.shift(0, 0, 1, Integer.MIN_VALUE, Integer.MIN_VALUE), PLACE);
        tapeIs(x, 0, 1, 2, 3, 4, 5);
        tapeIs(x, 1, 0, 0, 0, 0, 0, 0);
    }

    /** Tape 0 holds the ints 1 .. 5, tape 1 six ints. */
    private static DebtRings numbered() {
        DebtRings x = new DebtRings();
        x.tape(0, 2, 5);
        x.tape(1, 2, 6);
        for (int i = 0; i < 5; i++) {
            x.item(0, i, i + 1);
        }
        return x;
    }

    private static void tapeIs(DebtRings x, int tape, long... items) {
        for (int i = 0; i < items.length; i++) {
            due.is("peek " + tape + " " + i, x.peek(tape, i), items[i]);
        }
        due.is("behind the last", x.peek(tape, items.length), Long.MIN_VALUE);
    }
}
