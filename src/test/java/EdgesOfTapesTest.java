/** Sentence by sentence, what the document says of edges of judging, the image and tapes: promises 29 to 36. */
public final class EdgesOfTapesTest {
    private static final int NONE = -1, BAD = -2, STATE = -3, NOTHING = -11, CAST = -12, PLACE = -13, SIZE = -14;
    private static final long NO = Long.MIN_VALUE;
    private static final int BYTES = 0, SHORTS = 1, INTS = 2, LONGS = 3, BOOLEANS = 4;
    private static final int[] FAR = {Integer.MIN_VALUE, Integer.MIN_VALUE + 1, -61, -60, -1, Integer.MAX_VALUE - 59,
        Integer.MAX_VALUE - 1, Integer.MAX_VALUE};
    private static final Due due = new Due("EdgesOfTapesTest");

    public static void main(String[] args) {
        hostRefusals();
        sixTapes();
        rowsOfSorts();
        codesOfPayments();
        firstThatIsOtherwise();
        rowEndsAhead();
        placeBelowNothing();
        judgedWithoutPayments();
        judgeRefusals();
        imageOfAll();
        imageIsTheLast();
        imageOfNobody();
        undoWithoutImage();
        whatImageDoesNotHold();
        counts();
        tapeSizes();
        tapeAllNothing();
        tapeHoldsNothing();
        tapeRefusals();
        lowestBits();
        booleans();
        itemRefusals();
        peekOfNothing();
        shiftAsTheyWere();
        shiftToTheEnds();
        shiftRefusals();
        due.end();
    }

    /** A tape with such items. */
    private static DebtRings row(int tape, int sort, long... items) {
        DebtRings x = new DebtRings();
        putRow(x, tape, sort, items);
        return x;
    }

    private static void putRow(DebtRings x, int tape, int sort, long... items) {
        x.tape(tape, sort, items.length);
        for (int i = 0; i < items.length; i++) {
            x.item(tape, i, items[i]);
        }
    }

    private static void rowIs(DebtRings x, int tape, long... items) {
        for (int i = 0; i < items.length; i++) {
            due.is("peek " + tape + " " + i, x.peek(tape, i), items[i]);
        }
        due.is("peek behind the last", x.peek(tape, items.length), NO);
        due.is("peek ahead of the first", x.peek(tape, -1), NO);
    }

    private static void hostRefusals() {
        due.sentence(0, "The host's refusals: NOTHING (-11): nothing is there; CAST (-12): another sort; "
            + "PLACE (-13): no such place; SIZE (-14): a size below 0");
        due.is("nothing is there", new DebtRings().item(0, 0, 1), -11);
        DebtRings x = row(0, INTS, 7);
        putRow(x, 1, SHORTS, 7);
        due.is("another sort", x.shift(0, 0, 1, 0, 1), -12);
        due.is("another sort", x.judge(0, 0), -12);
        due.is("no such place", x.item(0, 1, 1), -13);
        due.is("a size below 0", x.tape(0, INTS, -1), -14);
        due.is("a size of 0", x.tape(0, INTS, 0), 1);
    }

    private static void sixTapes() {
        due.sentence(0, "TAPES 0 .. 5 hold nothing (at first)");
        for (int tape = 0; tape <= 5; tape++) {
            due.is("item", new DebtRings().item(tape, 0, 1), NOTHING);
            due.is("peek", new DebtRings().peek(tape, 0), NO);
            due.is("shift", new DebtRings().shift(tape, 0, tape, 0, 0), NOTHING);
            DebtRings x = row(tape, INTS, 7);
            for (int other = 0; other <= 5; other++) {
                due.is("the others hold nothing still", x.peek(other, 0), other == tape ? 7 : NO);
            }
        }
        due.only("tape", 0, 5, NONE, tape -> new DebtRings().tape(tape, 0, 1));
        due.only("item", 0, 5, NONE, tape -> new DebtRings().item(tape, 0, 1));
        due.only("judge", 0, 5, NONE, tape -> new DebtRings().judge(tape, 0));
        due.only("shift from", 0, 5, NONE, tape -> new DebtRings().shift(tape, 0, 5, 0, 0));
        due.only("shift to", 0, 5, NONE, tape -> new DebtRings().shift(0, 0, tape, 0, 0));
    }

    private static void rowsOfSorts() {
        due.sentence(0, "a row of 0 bytes, 1 shorts, 2 ints, 3 longs, 4 booleans (items 0, 1)");
        long[] least = {-128, -32768, Integer.MIN_VALUE, Long.MIN_VALUE + 1, 0};
        long[] most = {127, 32767, Integer.MAX_VALUE, Long.MAX_VALUE, 1};
        for (int sort = 0; sort <= 4; sort++) {
            rowIs(row(3, sort, least[sort], most[sort], 0), 3, least[sort], most[sort], 0);
        }
        rowIs(row(3, LONGS, Long.MIN_VALUE), 3, Long.MIN_VALUE);
        due.only("sort, but -1", -1, 4, BAD, sort -> new DebtRings().tape(0, sort, 1));
    }

    private static DebtRings threePayments() {
        return Setups.owing(6, 0, 1, 5, 2, 3, 66, 4, 5, 777);
    }

    private static void codesOfPayments() {
        due.sentence(0, "each 10000 times the payer, 1000 times the payee, and the amount");
        DebtRings x = threePayments();
        putRow(x, 0, LONGS, 1005, 23066, 45777);
        due.is("judge", x.judge(0, 0), -5);
        DebtRings least = Setups.owing(2, 1, 0, 1);
        putRow(least, 0, LONGS, 10001);
        due.is("1 pays 0 1", least.judge(0, 0), -5);
        // An amount above 999 runs into the payee's place.
        DebtRings most = Setups.owing(6, 5, 4, 999, 5, 3, 999, 3, 4, 999);
        due.is("the amount", most.payment(0, 2), 1998);
        putRow(most, 0, LONGS, 55998);
        due.is("5 pays 4 1998", most.judge(0, 0), -5);
    }

    private static void firstThatIsOtherwise() {
        due.sentence(0, "the first that is otherwise (counted from 0 from that place on); -5: none");
        long[] right = {1005, 23066, 45777};
        for (int place = 0; place <= 3; place++) {
            for (int wrong = 0; wrong < 3; wrong++) {
                for (long off : new long[] {-1, 1, 1000, 10000, 1L << 32, Long.MIN_VALUE}) {
                    DebtRings x = threePayments();
                    x.tape(0, LONGS, 7);
                    for (int k = 0; k < 3; k++) {
                        x.item(0, place + k, right[k] + (k == wrong ? off : 0));
                    }
                    due.is("from " + place + ", off by " + off, x.judge(0, place), wrong);
                    x.item(0, place + wrong, right[wrong]);
                    due.is("from " + place + ", all right", x.judge(0, place), -5);
                }
            }
        }
        DebtRings two = threePayments();
        putRow(two, 0, LONGS, 1005, 0, 0);
        due.is("the first of two", two.judge(0, 0), 1);
        putRow(two, 0, LONGS, 1005, 23066, 45777, 1005);
        due.is("what is behind all does not matter", two.judge(0, 0), -5);
    }

    private static void rowEndsAhead() {
        due.sentence(0, "100 and how many were looked at, if the row ends ahead of that");
        long[] right = {1005, 23066, 45777};
        for (int ahead = 0; ahead <= 3; ahead++) {
            for (int length = 0; length <= 3; length++) {
                DebtRings x = threePayments();
                x.tape(0, LONGS, ahead + length);
                for (int k = 0; k < length; k++) {
                    x.item(0, ahead + k, right[k]);
                }
                due.is(length + " behind " + ahead, x.judge(0, ahead), length == 3 ? -5 : 100 + length);
            }
        }
        DebtRings x = threePayments();
        putRow(x, 0, LONGS, 1005, 0);
        due.is("the first otherwise is ahead of the end", x.judge(0, 0), 1);
        due.is("at the end", x.judge(0, 2), 100);
        due.is("behind the end", x.judge(0, 3), 100);
        x.tape(0, LONGS, 60);
        x.item(0, 59, 1005);
        due.is("the last of 60", x.judge(0, 59), 101);
        due.is("behind 60", x.judge(0, 60), 100);
        due.is("far behind", x.judge(0, Integer.MAX_VALUE), 100);
        due.is("far behind", x.judge(0, Integer.MAX_VALUE - 1), 100);
        x.tape(0, LONGS, 0);
        due.is("a row of none", x.judge(0, 0), 100);
    }

    private static void placeBelowNothing() {
        due.sentence(0, "(or the place is below 0, or the TAPE holds nothing)");
        DebtRings x = threePayments();
        putRow(x, 0, LONGS, 1005, 23066, 45777);
        for (int place : new int[] {-1, -2, -100, Integer.MIN_VALUE, Integer.MIN_VALUE + 1}) {
            due.is("place " + place, x.judge(0, place), 100);
        }
        for (int place : new int[] {Integer.MIN_VALUE, -1, 0, 1, Integer.MAX_VALUE}) {
            due.is("it holds nothing, place " + place, x.judge(1, place), 100);
        }
        x.tape(0, -1, 0);
        due.is("it holds nothing any more", x.judge(0, 0), 100);
    }

    private static void judgedWithoutPayments() {
        due.sentence(29, "(-5: no PAYMENTS, also if it holds nothing; NONE, CAST go ahead of that)");
        for (int place : new int[] {Integer.MIN_VALUE, -1, 0, 1, 60, Integer.MAX_VALUE}) {
            DebtRings x = Setups.owing(2, 0, 1, 5, 1, 0, 5);
            due.is("it holds nothing", x.judge(0, place), -5);
            x.tape(0, LONGS, 0);
            due.is("a row of none", x.judge(0, place), -5);
            x.tape(0, LONGS, 1);
            due.is("a row of one", x.judge(0, place), -5);
            for (int sort : new int[] {BYTES, SHORTS, INTS, BOOLEANS}) {
                x.tape(0, sort, 1);
                due.is("of sort " + sort, x.judge(0, place), CAST);
            }
            due.is("no such tape", x.judge(6, place), NONE);
            due.is("no such tape", x.judge(-1, place), NONE);
            due.is("nobody is there", new DebtRings().judge(5, place), -5);
        }
    }

    private static void judgeRefusals() {
        due.sentence(29, "NONE: tape; CAST: it is no row of longs");
        due.only("tape", 0, 5, NONE, tape -> threePayments().judge(tape, 0));
        for (int sort = 0; sort <= 4; sort++) {
            for (int n : new int[] {0, 1, 60}) {
                DebtRings x = threePayments();
                x.tape(5, sort, n);
                due.is("sort " + sort + ", " + n, x.judge(5, 0), sort != LONGS ? CAST : n == 0 ? 100 : 0);
                due.is("sort " + sort + ", " + n + ", below 0", x.judge(5, -1), sort != LONGS ? CAST : 100);
            }
        }
    }

    private static void imageOfAll() {
        due.sentence(0, "THE IMAGE: PEOPLE, DEBTS and their order, CONSENTS, THE TRAIL, SEEN, EVENTS, the BOOK");
        DebtRings x = Setups.owing(4, 2, 3, 9, 0, 1, 5, 1, 0, 4);
        x.cut(1, 1);
        x.consent(0, 1, false);
        x.see(2, 3, 9);
        x.event(0, 2);
        x.book(2, 3, 9);
        x.book(0, 1, 2);
        due.is("image()", x.image(), 4);
        x.person();
        x.pay(2, 3, 9);
        x.owe(2, 3, 9);
        x.owe(4, 0, 9);
        x.owe(1, 0, 1);
        x.cut(0, 1);
        x.consent(0, 1, true);
        x.consent(2, 3, false);
        x.see(-1, 0, 0);
        x.event(-1, 0);
        x.book(-1, 0, 0);
        due.is("undo()", x.undo(), 4);
        due.is("PEOPLE", x.told(0), 4);
        due.is("the fifth is nobody", x.balance(4), NO);
        Setups.debtsAre(due, x, new int[] {2, 3, 9}, new int[] {0, 1, 1});
        due.is("CONSENTS, 0 to 1", x.of(0, 1, 1), 0);
        due.is("CONSENTS, 2 to 3", x.of(2, 3, 1), 1);
        due.is("THE TRAIL", x.told(3), 1);
        due.is("its RULE", x.trail(0, 0), 1);
        due.is("its LEAST", x.trail(0, 2), 4);
        due.is("SEEN", x.count(0), 1);
        due.is("SEEN, its row", x.fits(2, 3, 1), 9);
        due.is("EVENTS", x.count(1), 1);
        due.is("EVENTS, behind them", x.after(0), 1);
        due.is("the BOOK", x.count(2), 2);
        due.is("the BOOK, looked at", x.looked(), 1);
    }

    private static void imageIsTheLast() {
        due.sentence(30, "THE IMAGE is taken: how many PEOPLE there are");
        DebtRings x = new DebtRings();
        for (int count = 0; count <= 6; count++) {
            due.is("image()", x.image(), count);
            x.person();
            due.is("the last one", x.undo(), count);
            x.person();
        }
        DebtRings y = Setups.owing(2, 0, 1, 5);
        y.image();
        y.owe(0, 1, 1);
        y.image();
        y.owe(0, 1, 1);
        y.undo();
        due.is("the last one", y.of(0, 1, 0), 6);
        y.owe(0, 1, 3);
        y.undo();
        due.is("it stays as it was taken", y.of(0, 1, 0), 6);
    }

    private static void imageOfNobody() {
        due.sentence(31, "All is as THE IMAGE: how many PEOPLE");
        DebtRings x = new DebtRings();
        due.is("image()", x.image(), 0);
        Setups.readAll(x, "p;p;o015;n01");
        x.see(0, 1, 1);
        x.event(3, 0);
        x.book(0, 1, 1);
        due.is("undo()", x.undo(), 0);
        for (int what = 0; what <= 11; what++) {
            due.is("told " + what, x.told(what), 0);
        }
        for (int what = 0; what <= 2; what++) {
            due.is("count " + what, x.count(what), 0);
        }
        due.is("the first again", x.person(), 0);
        due.is("the second again", x.person(), 1);
        due.is("who consents", x.of(0, 1, 1), 1);
        due.is("and owes nothing", x.of(0, 1, 0), 0);
    }

    private static void undoWithoutImage() {
        due.sentence(31, "STATE: there is none");
        due.is("new", new DebtRings().undo(), STATE);
        DebtRings x = Setups.owing(2, 0, 1, 5);
        due.is("none was taken", x.undo(), STATE);
        due.is("nothing changed", x.told(4), 5);
        x.image();
        due.is("one was taken", x.undo(), 2);
        due.is("it stays", x.undo(), 2);
    }

    private static void whatImageDoesNotHold() {
        // THE TEXT and TAPES are none of these.
        due.sentence(0, "THE IMAGE: PEOPLE, DEBTS and their order, CONSENTS, THE TRAIL, SEEN, EVENTS, the BOOK");
        DebtRings x = row(2, INTS, 1, 2);
        x.feed('p');
        x.image();
        x.feed(';');
        x.feed('p');
        x.item(2, 1, 9);
        x.tape(3, INTS, 1);
        x.undo();
        due.is("THE TEXT", x.count(3), 3);
        rowIs(x, 2, 1, 9);
        rowIs(x, 3, 0);
        due.is("read()", x.read(), 2);
    }

    private static void counts() {
        due.sentence(32, "How many: 0 SEEN, 1 EVENTS, 2 of the BOOK, 3 bytes of THE TEXT. BAD");
        due.only("what", 0, 3, BAD, what -> new DebtRings().count(what));
        DebtRings x = Setups.people(2);
        int[] most = {5, 8, 8, 100};
        for (int k = 1; k <= 101; k++) {
            x.see(0, 1, 1);
            x.event(3, 0);
            x.book(0, 1, 1);
            x.feed('p');
            if (k <= 9 || k >= 99) {
                for (int what = 0; what <= 3; what++) {
                    due.is("count " + what, x.count(what), Math.min(k, most[what]));
                }
            }
        }
    }

    private static void tapeSizes() {
        due.sentence(33, "A TAPE becomes a row of n (0 .. 60) of a sort");
        for (int sort = 0; sort <= 4; sort++) {
            for (int n : new int[] {0, 1, 2, 59, 60}) {
                DebtRings x = new DebtRings();
                due.is("tape 5 " + sort + " " + n, x.tape(5, sort, n), 1);
                due.is("behind the last", x.item(5, n, 1), PLACE);
                due.is("behind the last", x.peek(5, n), NO);
                if (n > 0) {
                    due.is("the last", x.item(5, n - 1, 1), 1);
                    due.is("the last", x.peek(5, n - 1), 1);
                }
            }
        }
    }

    private static void tapeAllNothing() {
        due.sentence(33, "all 0");
        for (int sort = 0; sort <= 4; sort++) {
            DebtRings x = new DebtRings();
            x.tape(0, LONGS, 60);
            for (int i = 0; i < 60; i++) {
                x.item(0, i, -1);
            }
            due.is("tape", x.tape(0, sort, 60), 1);
            for (int i = 0; i < 60; i++) {
                due.is("peek " + i, x.peek(0, i), 0);
            }
            x.item(0, 1, 1);
            x.tape(0, sort, 1);
            x.tape(0, sort, 2);
            rowIs(x, 0, 0, 0);
        }
    }

    private static void tapeHoldsNothing() {
        due.sentence(33, "or holds nothing (sort -1: n does not matter): 1");
        for (int n : new int[] {Integer.MIN_VALUE, -1, 0, 60, 61, Integer.MAX_VALUE}) {
            DebtRings x = row(4, LONGS, 7);
            due.is("tape 4 -1 " + n, x.tape(4, -1, n), 1);
            due.is("peek", x.peek(4, 0), NO);
            due.is("item", x.item(4, 0, 1), NOTHING);
            due.is("once more", x.tape(4, -1, n), 1);
            due.is("no such tape goes ahead", x.tape(6, -1, n), NONE);
        }
    }

    private static void tapeRefusals() {
        due.sentence(33, "NONE: tape; BAD: sort, n above 60; SIZE");
        due.only("n", Integer.MIN_VALUE, 60, BAD, n -> new DebtRings().tape(0, INTS, n));
        due.only("n", 0, Integer.MAX_VALUE, SIZE, n -> new DebtRings().tape(0, INTS, n));
        due.only("sort", -1, 4, BAD, sort -> new DebtRings().tape(0, sort, 60));
        due.is("NONE ahead of BAD", new DebtRings().tape(6, 5, 61), NONE);
        due.is("NONE ahead of SIZE", new DebtRings().tape(-1, 0, -1), NONE);
        due.is("BAD ahead of SIZE", new DebtRings().tape(0, 5, -1), BAD);
        due.is("BAD ahead of SIZE", new DebtRings().tape(0, -2, -1), BAD);
        int[][] refused = {{5, 1}, {-2, 1}, {INTS, 61}, {INTS, -1}, {5, -1}, {LONGS, Integer.MIN_VALUE}};
        for (int[] call : refused) {
            DebtRings x = row(0, INTS, 7, 8);
            due.isTrue("tape 0 " + call[0] + " " + call[1], x.tape(0, call[0], call[1]) < 0);
            rowIs(x, 0, 7, 8);
        }
    }

    private static void lowestBits() {
        due.sentence(34, "Item i of a TAPE becomes v (its lowest bits, as many as an item has");
        int[] bits = {8, 16, 32, 64};
        for (int sort = 0; sort <= 3; sort++) {
            long half = 1L << bits[sort] - 1;
            long least = sort == 3 ? Long.MIN_VALUE : -half;
            long most = sort == 3 ? Long.MAX_VALUE : half - 1;
            rowIs(row(0, sort, most, least, -1, 0), 0, most, least, -1, 0);
            rowIs(row(0, sort, most + 1, least - 1), 0, least, most);
            rowIs(row(0, sort, 2 * half - 1, 2 * half, 2 * half + 1), 0, -1, 0, 1);
        }
        long v = 0x8182838485868788L;
        rowIs(row(0, BYTES, v, Long.MIN_VALUE, Long.MAX_VALUE), 0, (byte) 0x88, 0, -1);
        rowIs(row(0, SHORTS, v, Long.MIN_VALUE, Long.MAX_VALUE), 0, (short) 0x8788, 0, -1);
        rowIs(row(0, INTS, v, Long.MIN_VALUE, Long.MAX_VALUE), 0, 0x85868788, 0, -1);
        rowIs(row(0, LONGS, v, Long.MIN_VALUE, Long.MAX_VALUE), 0, v, Long.MIN_VALUE, Long.MAX_VALUE);
    }

    private static void booleans() {
        due.sentence(34, "booleans: whether v is not 0): 1");
        for (int bit = 0; bit < 64; bit++) {
            rowIs(row(0, BOOLEANS, 1L << bit, 0), 0, 1, 0);
        }
        rowIs(row(0, BOOLEANS, -1, 2, Long.MAX_VALUE), 0, 1, 1, 1);
        DebtRings x = row(0, BOOLEANS, 1);
        due.is("to 0 again", x.item(0, 0, 0), 1);
        rowIs(x, 0, 0);
    }

    private static void itemRefusals() {
        due.sentence(34, "NONE; NOTHING; PLACE");
        due.only("i of 60", 0, 59, PLACE, i -> longest().item(0, i, 1));
        due.only("i of 3", 0, 2, PLACE, i -> row(0, BOOLEANS, 0, 0, 0).item(0, i, 1));
        due.is("i of none", row(0, INTS).item(0, 0, 1), PLACE);
        for (int i : FAR) {
            due.is("PLACE", row(0, INTS, 7).item(0, i, 1), PLACE);
            due.is("NOTHING ahead of PLACE", row(0, INTS, 7).item(1, i, 1), NOTHING);
            due.is("NONE ahead of NOTHING", row(0, INTS, 7).item(6, i, 1), NONE);
        }
        DebtRings x = row(0, INTS, 7, 8);
        x.item(0, 2, 9);
        x.item(0, -1, 9);
        x.item(1, 0, 9);
        rowIs(x, 0, 7, 8);
    }

    private static DebtRings longest() {
        DebtRings x = new DebtRings();
        x.tape(0, BYTES, 60);
        return x;
    }

    private static void peekOfNothing() {
        due.sentence(35, "NO: no such TAPE, nothing there, no such place");
        due.only("tape", 0, 0, NO, tape -> row(0, INTS, 7).peek(tape, 0));
        due.only("i of 60", 0, 59, NO, i -> longest().peek(0, i));
        due.is("i of none", row(0, INTS).peek(0, 0), NO);
        for (int i : FAR) {
            due.is("no such place", row(0, INTS, 7).peek(0, i), NO);
        }
        due.is("no such tape", new DebtRings().peek(6, 0), NO);
        due.is("no such tape", new DebtRings().peek(-1, 0), NO);
    }

    private static void shiftAsTheyWere() {
        due.sentence(36, "n items of a TAPE from i on come to another one (or the same) from j on, as they all were "
            + "before: n");
        for (int i = 0; i <= 5; i++) {
            for (int j = 0; j <= 5; j++) {
                for (int n = 0; n <= 5 - Math.max(i, j); n++) {
                    long[] want = {1, 2, 3, 4, 5};
                    for (int k = 0; k < n; k++) {
                        want[j + k] = i + k + 1;
                    }
                    DebtRings x = row(0, SHORTS, 1, 2, 3, 4, 5);
                    due.is("shift 0 " + i + " 0 " + j + " " + n, x.shift(0, i, 0, j, n), n);
                    rowIs(x, 0, want);
                    DebtRings y = row(0, SHORTS, 1, 2, 3, 4, 5);
                    putRow(y, 5, SHORTS, 1, 2, 3, 4, 5);
                    due.is("shift 0 " + i + " 5 " + j + " " + n, y.shift(0, i, 5, j, n), n);
                    rowIs(y, 5, want);
                    rowIs(y, 0, 1, 2, 3, 4, 5);
                }
            }
        }
    }

    private static void shiftToTheEnds() {
        due.sentence(36, "PLACE: n, i or j is below 0, or beyond either's end");
        for (int i = -1; i <= 4; i++) {
            for (int j = -1; j <= 6; j++) {
                for (int n = -1; n <= 6; n++) {
                    boolean isThere = i >= 0 && j >= 0 && n >= 0 && i + n <= 3 && j + n <= 5;
                    DebtRings x = row(0, INTS, 1, 2, 3);
                    putRow(x, 1, INTS, 0, 0, 0, 0, 0);
                    due.is("shift 0 " + i + " 1 " + j + " " + n, x.shift(0, i, 1, j, n), isThere ? n : PLACE);
                    rowIs(x, 0, 1, 2, 3);
                    if (!isThere) {
                        rowIs(x, 1, 0, 0, 0, 0, 0);
                    }
                }
            }
        }
        for (int far : FAR) {
            for (int other : new int[] {0, 1, 2, Integer.MIN_VALUE, Integer.MAX_VALUE}) {
                due.is("i far off", row(0, INTS, 1, 2).shift(0, far, 0, 0, other), PLACE);
                due.is("j far off", row(0, INTS, 1, 2).shift(0, 0, 0, far, other), PLACE);
                due.is("n far off", row(0, INTS, 1, 2).shift(0, other, 0, 1, far), PLACE);
            }
        }
        due.is("none of none", row(0, INTS).shift(0, 0, 0, 0, 0), 0);
        due.is("none behind none", row(0, INTS).shift(0, 1, 0, 0, 0), PLACE);
        DebtRings x = longest();
        x.tape(1, BYTES, 60);
        due.is("60", x.shift(0, 0, 1, 0, 60), 60);
        due.is("61", x.shift(0, 0, 1, 0, 61), PLACE);
    }

    private static void shiftRefusals() {
        due.sentence(36, "NONE: tapes; NOTHING; CAST: of unlike sorts");
        for (int sort = 0; sort <= 4; sort++) {
            for (int other = 0; other <= 4; other++) {
                DebtRings x = row(0, sort, 1, 1);
                putRow(x, 1, other, 0, 0);
                due.is("sorts " + sort + " " + other, x.shift(0, 0, 1, 0, 1), sort == other ? 1 : CAST);
                due.is("none of sorts " + sort + " " + other, x.shift(0, 0, 1, 0, 0), sort == other ? 0 : CAST);
                rowIs(x, 1, sort == other ? 1 : 0, 0);
                due.is("CAST ahead of PLACE", x.shift(0, -1, 1, 9, 99), sort == other ? PLACE : CAST);
            }
            due.is("NOTHING here", row(0, sort, 1).shift(1, 0, 0, 0, 0), NOTHING);
            due.is("NOTHING there", row(0, sort, 1).shift(0, 0, 1, 0, 0), NOTHING);
            due.is("NOTHING ahead of PLACE", row(0, sort, 1).shift(0, -1, 1, -1, -1), NOTHING);
            due.is("NOTHING ahead of PLACE", row(0, sort, 1).shift(1, -1, 0, -1, -1), NOTHING);
        }
        due.is("NONE ahead of NOTHING", new DebtRings().shift(6, 0, 0, 0, 0), NONE);
        due.is("NONE ahead of NOTHING", new DebtRings().shift(0, 0, -1, 0, 0), NONE);
        due.is("NONE ahead of PLACE", row(0, INTS, 1).shift(0, -1, 6, -1, -1), NONE);
    }
}
