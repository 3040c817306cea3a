/** "The first that a call's words name": each call for which two refusals hold at once answers the first of them. */
public final class RefusalOrderTest {
    private static final int NONE = -1, BAD = -2, STATE = -3, FULL = -4, NOT_ANY = -5;
    private static final int NOTHING = -11, CAST = -12, PLACE = -13, SIZE = -14;
    private static final int[] NOBODY = {Integer.MIN_VALUE, -2, 2, 6, Integer.MAX_VALUE};
    private static final Due due = new Due("RefusalOrderTest");

    public static void main(String[] args) {
        due.sentence(0, "the first that a call's words name");
        debts();
        textsAndRings();
        rows();
        events();
        judge();
        tapes();
        shift();
        due.end();
    }

    private static void debts() {
        for (int p : NOBODY) {
            for (int n : new int[] {Integer.MIN_VALUE, -1, 0, 100, Integer.MAX_VALUE}) {
                due.is("owe: NONE, BAD", Setups.people(2).owe(p, 1, n), NONE);
                due.is("owe: NONE, BAD", Setups.people(2).owe(0, p, n), NONE);
                due.is("owe: NONE, BAD", Setups.people(2).owe(1, 1, n), NONE);
                due.is("owe: BAD, FULL", Setups.owing(2, 0, 1, 999).owe(0, 1, n), BAD);
                due.is("pay: NONE, BAD", Setups.people(2).pay(p, 1, n), NONE);
                due.is("pay: NONE, BAD", Setups.people(2).pay(0, p, n), NONE);
                due.is("pay: NONE, BAD", Setups.people(2).pay(1, 1, n), NONE);
                due.is("pay: BAD, STATE", Setups.people(2).pay(0, 1, n), BAD);
            }
            due.is("pay: NONE, STATE", Setups.people(2).pay(p, 1, 1), NONE);
            due.is("pay: NONE, STATE", Setups.people(2).pay(0, p, 1), NONE);
        }
        due.is("pay: NONE, STATE", Setups.people(2).pay(1, 1, 1), NONE);
        due.is("owe: FULL alone", Setups.owing(2, 0, 1, 999).owe(0, 1, 99), FULL);
        due.is("pay: STATE alone", Setups.people(2).pay(0, 1, 99), STATE);
    }

    private static void textsAndRings() {
        DebtRings x = new DebtRings();
        Setups.feedAll(x, "p".repeat(100));
        for (int sign : new int[] {Integer.MIN_VALUE, -1, 128, Integer.MAX_VALUE}) {
            due.is("feed: BAD, FULL", x.feed(sign), BAD);
        }
        due.is("feed: FULL alone", x.feed('p'), FULL);
        for (int k : new int[] {Integer.MIN_VALUE, -3, 2, Integer.MAX_VALUE}) {
            for (int rule : new int[] {Integer.MIN_VALUE, -1, 4, Integer.MAX_VALUE}) {
                due.is("ring: BAD, none, NONE", Setups.people(2).ring(rule, k), BAD);
                due.is("ring: BAD, NONE", Setups.owing(2, 0, 1, 1, 1, 0, 1).ring(rule, k), BAD);
            }
            due.is("ring: none, NONE", Setups.people(2).ring(0, k), NOT_ANY);
            due.is("ring: NONE alone", Setups.owing(2, 0, 1, 1, 1, 0, 1).ring(0, k), NONE);
        }
    }

    /** SEEN and the BOOK, full or not. */
    private static void rows() {
        for (boolean isFull : new boolean[] {false, true}) {
            DebtRings x = Setups.people(2);
            for (int k = 0; isFull && k < 8; k++) {
                x.see(0, 1, 1);
                x.book(0, 1, 1);
            }
            for (int n : new int[] {Integer.MIN_VALUE, -1, 0, 1000, Integer.MAX_VALUE}) {
                for (int p : NOBODY) {
                    due.is("see: NONE, BAD, FULL", x.see(p, 1, n), NONE);
                    due.is("see: NONE, BAD, FULL", x.see(0, p, n), NONE);
                    due.is("book: NONE, BAD, FULL", x.book(p, 1, n), NONE);
                    due.is("book: NONE, BAD, FULL", x.book(0, p, n), NONE);
                }
                due.is("see: NONE, BAD, FULL", x.see(1, 1, n), NONE);
                due.is("see: NONE, BAD, FULL", x.see(1, -1, n), NONE);
                due.is("see: BAD, FULL", x.see(0, 1, n), BAD);
                due.is("book: NONE, BAD, FULL", x.book(1, 1, n), NONE);
                due.is("book: NONE, BAD, FULL", x.book(1, -1, n), NONE);
                due.is("book: BAD, FULL", x.book(0, 1, n), BAD);
            }
            due.is("see: NONE, FULL", x.see(0, 2, 1), NONE);
            due.is("book: NONE, FULL", x.book(0, 2, 1), NONE);
            due.is("see: FULL alone", x.see(0, 1, 1), isFull ? FULL : 1);
            due.is("book: FULL alone", x.book(0, 1, 1), isFull ? FULL : 1);
            due.is("see: i -1 ahead of all", x.see(-1, -1, 0), 0);
            due.is("book: i -1 ahead of all", x.book(-1, -1, 0), 0);
        }
    }

    private static void events() {
        DebtRings x = Setups.people(2);
        for (int k = 0; k < 8; k++) {
            x.event(3, 0);
        }
        for (int what : new int[] {Integer.MIN_VALUE, -2, 4, Integer.MAX_VALUE}) {
            due.is("event: NONE, FULL", x.event(what, 0), NONE);
            due.is("event: NONE of what, n as it may be", x.event(what, 99), NONE);
        }
        for (int n : NOBODY) {
            due.is("event: NONE, FULL", x.event(0, n), NONE);
            due.is("event: NONE, FULL", x.event(1, n), NONE);
        }
        for (int n : new int[] {Integer.MIN_VALUE, -1, 4, Integer.MAX_VALUE}) {
            due.is("event: BAD, FULL", x.event(2, n), BAD);
            due.is("event: FULL, whatever n is", x.event(3, n), FULL);
        }
        due.is("event: FULL alone", x.event(2, 3), FULL);
        due.is("event: FULL alone", x.event(1, 1), FULL);
        due.is("event: what -1 ahead of all", x.event(-1, 99), 0);
    }

    private static void judge() {
        for (int payments = 0; payments <= 1; payments++) {
            DebtRings x = payments == 0 ? Setups.people(2) : Setups.owing(2, 0, 1, 5);
            x.tape(0, 2, 1);
            for (int place : new int[] {Integer.MIN_VALUE, -1, 0, 1, Integer.MAX_VALUE}) {
                due.is("judge: NONE ahead of all", x.judge(-1, place), NONE);
                due.is("judge: NONE ahead of all", x.judge(6, place), NONE);
                due.is("judge: CAST ahead of -5 and 100", x.judge(0, place), CAST);
                due.is("judge: -5 ahead of 100", x.judge(1, place), payments == 0 ? NOT_ANY : 100);
            }
        }
    }

    private static void tapes() {
        for (int tape : new int[] {Integer.MIN_VALUE, -1, 6, Integer.MAX_VALUE}) {
            for (int sort : new int[] {-2, -1, 0, 4, 5}) {
                for (int n : new int[] {Integer.MIN_VALUE, -1, 0, 60, 61, Integer.MAX_VALUE}) {
                    due.is("tape: NONE, BAD, SIZE", new DebtRings().tape(tape, sort, n), NONE);
                }
            }
            for (int i : new int[] {-1, 0, 1}) {
                due.is("item: NONE, NOTHING, PLACE", new DebtRings().item(tape, i, 1), NONE);
            }
        }
        for (int sort : new int[] {Integer.MIN_VALUE, -2, 5, Integer.MAX_VALUE}) {
            due.is("tape: BAD, SIZE", new DebtRings().tape(0, sort, -1), BAD);
            due.is("tape: BAD, SIZE", new DebtRings().tape(0, sort, Integer.MIN_VALUE), BAD);
        }
        due.is("tape: SIZE alone", new DebtRings().tape(0, 0, -1), SIZE);
        due.is("tape: sort -1 ahead of BAD", new DebtRings().tape(0, -1, 61), 1);
        due.is("tape: sort -1 ahead of SIZE", new DebtRings().tape(0, -1, -1), 1);
        due.is("item: NOTHING, PLACE", new DebtRings().item(0, -1, 1), NOTHING);
    }

    /** Tapes: 0 two ints, 1 two longs, 2 holds nothing. */
    private static void shift() {
        DebtRings x = new DebtRings();
        x.tape(0, 2, 2);
        x.tape(1, 3, 2);
        for (int place : new int[] {Integer.MIN_VALUE, -1, 0, 3, Integer.MAX_VALUE}) {
            for (int tape : new int[] {-1, 6}) {
                for (int other = 0; other <= 2; other++) {
                    due.is("shift: NONE ahead of all", x.shift(tape, place, other, 0, 1), NONE);
                    due.is("shift: NONE ahead of all", x.shift(other, 0, tape, place, 1), NONE);
                }
            }
            for (int other = 0; other <= 2; other++) {
                due.is("shift: NOTHING ahead of CAST, PLACE", x.shift(2, place, other, 0, 1), NOTHING);
                due.is("shift: NOTHING ahead of CAST, PLACE", x.shift(other, 0, 2, 0, place), NOTHING);
            }
            due.is("shift: CAST ahead of PLACE", x.shift(0, place, 1, 0, 1), CAST);
            due.is("shift: CAST ahead of PLACE", x.shift(1, 0, 0, place, 1), CAST);
            due.is("shift: CAST ahead of PLACE", x.shift(0, 0, 1, 0, place), CAST);
        }
        due.is("shift: PLACE alone", x.shift(0, -1, 0, 0, 1), PLACE);
    }
}
