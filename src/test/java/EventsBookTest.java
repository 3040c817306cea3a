/** Promises 25 to 28: events and what is after them, books and how they are looked at. */
public final class EventsBookTest {
    private static final Due due = new Due("EventsBookTest");

    public static void main(String[] args) {
        event();
        after();
        afterCuts();
        afterSettled();
        book();
        looked();
        due.end();
    }

    private static void event() {
        due.promise(25);
        DebtRings x = Setups.people(2);
        due.is("what -2", x.event(-2, 0), -1);
        due.is("what 4", x.event(4, 0), -1);
        due.is("no person", x.event(0, 2), -1);
        due.is("no person", x.event(1, -1), -1);
        due.is("no rule", x.event(2, 4), -2);
        due.is("no rule", x.event(2, -1), -2);
        due.is("count", x.count(1), 0);
        due.is("a person", x.event(0, 1), 1);
        due.is("a person", x.event(1, 0), 2);
        due.is("a rule, no person", x.event(2, 3), 3);
        due.is("n does not matter", x.event(3, Integer.MIN_VALUE), 4);
        for (int k = 5; k <= 8; k++) {
            due.is("event", x.event(3, 0), k);
        }
        due.is("full", x.event(3, 0), -4);
        due.is("NONE ahead of FULL", x.event(0, 2), -1);
        due.is("BAD ahead of FULL", x.event(2, 4), -2);
        due.is("count", x.count(1), 8);
        due.is("none then", x.event(-1, 99), 0);
        due.is("count", x.count(1), 0);
        due.is("again", x.event(0, 0), 1);
        due.is("none, nobody there", new DebtRings().event(-1, 0), 0);
    }

    private static void after() {
        due.promise(26);
        DebtRings x = Setups.owing(4, 0, 1, 5, 0, 2, 6, 1, 2, 7, 2, 0, 8);
        due.is("no events: total", x.after(0), 26);
        due.is("no events: debts", x.after(1), 4);
        due.is("no events: fewest", x.after(2), 2);
        due.is("what -1", x.after(-1), -1);
        due.is("what 3", x.after(3), -1);
        x.event(0, 0);
        due.is("0 owes nobody: total", x.after(0), 15);
        due.is("debts", x.after(1), 2);
        due.is("fewest", x.after(2), 2);
        x.event(1, 0);
        due.is("nobody owes 0: total", x.after(0), 7);
        due.is("debts", x.after(1), 1);
        due.is("fewest", x.after(2), 1);
        x.event(0, 1);
        due.is("nothing is left: total", x.after(0), 0);
        due.is("debts", x.after(1), 0);
        due.is("fewest", x.after(2), 0);
        due.is("nothing happened", x.told(4), 26);
        x.event(-1, 0);
        x.event(1, 2);
        due.is("nobody owes 2", x.after(0), 13);
        DebtRings all = Setups.people(6);
        for (int i = 0; i < 6; i++) {
            for (int j = 0; j < 6; j++) {
                all.owe(i, j, 1);
            }
        }
        for (int what = 0; what <= 1; what++) {
            for (int p = 0; p < 6; p++) {
                all.event(-1, 0);
                all.event(what, p);
                due.is("five are no more", all.after(0), 25);
                due.is("debts", all.after(1), 25);
            }
        }
    }

    private static void afterCuts() {
        DebtRings x = Setups.owing(4, 0, 1, 5, 1, 0, 4, 1, 2, 8, 2, 3, 8, 3, 1, 9);
        x.event(2, 1);
        due.is("by HIGH", x.after(0), 10);
        x.event(-1, 0);
        x.event(2, 0);
        due.is("by FIRST", x.after(0), 26);
        due.is("debts", x.after(1), 4);
        x.consent(0, 1, false);
        x.event(2, 3);
        due.is("by AGREED then", x.after(0), 2);
        x.event(2, 3);
        due.is("there is none any more", x.after(0), 2);
        due.is("the trail is as it was", x.told(3), 0);
        // Their order matters: a cut ahead of it, or behind it.
        x.event(-1, 0);
        x.event(0, 2);
        x.event(2, 1);
        due.is("the ring of 2 is no more", x.after(0), 18);
        x.event(-1, 0);
        x.event(2, 1);
        x.event(0, 2);
        due.is("the ring of 2 was cut", x.after(0), 10);
    }

    private static void afterSettled() {
        DebtRings x = Setups.owing(3, 0, 1, 5, 1, 2, 5);
        x.event(3, 77);
        due.is("total", x.after(0), 5);
        due.is("debts", x.after(1), 1);
        x.event(0, 0);
        due.is("what 0 pays 2 is a debt", x.after(0), 0);
        due.is("told 1", x.told(1), 2);
        DebtRings y = Setups.owing(3, 0, 1, 999, 0, 2, 1, 2, 1, 1);
        y.event(3, 0);
        due.is("a payment above 999: total", y.after(0), 1001);
        due.is("debts", y.after(1), 3);
        y.event(-1, 0);
        y.event(0, 2);
        y.event(3, 0);
        due.is("none above 999", y.after(1), 2);
        due.is("total", y.after(0), 1000);
    }

    private static void book() {
        due.promise(27);
        DebtRings x = Setups.people(3);
        due.is("one twice", x.book(1, 1, 5), -1);
        due.is("i above", x.book(3, 1, 5), -1);
        due.is("i -2", x.book(-2, 1, 5), -1);
        due.is("j -1", x.book(0, -1, 5), -1);
        due.is("NONE ahead of BAD", x.book(0, 3, 0), -1);
        due.is("n 0", x.book(0, 1, 0), -2);
        due.is("n 1000", x.book(0, 1, 1000), -2);
        due.is("n 999", x.book(0, 1, 999), 1);
        for (int k = 2; k <= 8; k++) {
            due.is("book", x.book(0, 2, 1), k);
        }
        due.is("full", x.book(0, 2, 1), -4);
        due.is("BAD ahead of FULL", x.book(0, 2, 0), -2);
        due.is("NONE ahead of FULL", x.book(0, 0, 0), -1);
        due.is("count", x.count(2), 8);
        due.is("empty then", x.book(-1, -7, 7777), 0);
        due.is("count", x.count(2), 0);
        due.is("again", x.book(2, 0, 1), 1);
    }

    private static void looked() {
        due.promise(28);
        DebtRings x = Setups.owing(4, 0, 1, 5, 2, 3, 6);
        due.is("an empty book", x.looked(), -5);
        x.book(2, 3, 6);
        due.is("among payments, whatever the order", x.looked(), -5);
        x.book(0, 1, 5);
        x.book(2, 3, 6);
        due.is("told twice", x.looked(), -5);
        x.book(0, 1, 6);
        due.is("another amount", x.looked(), 3);
        x.book(1, 0, 5);
        due.is("still the first", x.looked(), 3);
        x.book(-1, 0, 0);
        x.book(1, 0, 5);
        due.is("the other way", x.looked(), 0);
        x.book(-1, 0, 0);
        x.book(0, 1, 5);
        x.book(0, 3, 6);
        due.is("another payer", x.looked(), 1);
        x.pay(0, 1, 5);
        due.is("no payment any more", x.looked(), 0);
    }
}
