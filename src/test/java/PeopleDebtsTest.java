/** Promises 1 to 7: people, what they owe, consents. */
public final class PeopleDebtsTest {
    private static final Due due = new Due("PeopleDebtsTest");

    public static void main(String[] args) {
        newObject();
        person();
        owe();
        pay();
        consent();
        of();
        debt();
        due.end();
    }

    private static void newObject() {
        due.promise(1);
        due.is("NONE", DebtRings.NONE, -1);
        due.is("BAD", DebtRings.BAD, -2);
        due.is("STATE", DebtRings.STATE, -3);
        due.is("FULL", DebtRings.FULL, -4);
        due.is("NO", DebtRings.NO, Long.MIN_VALUE);
        DebtRings x = new DebtRings();
        for (int what = 0; what <= 11; what++) {
            due.is("told of a new object " + what, x.told(what), 0);
        }
        for (int what = 0; what <= 3; what++) {
            due.is("count of a new object " + what, x.count(what), 0);
        }
        due.is("undo of a new object", x.undo(), -3);
        for (int tape = 0; tape <= 5; tape++) {
            due.is("tape of a new object " + tape, x.item(tape, 0, 1), -11);
        }
        DebtRings y = new DebtRings();
        y.person();
        due.is("objects do not share", x.told(0), 0);
    }

    private static void person() {
        due.promise(2);
        DebtRings x = new DebtRings();
        for (int p = 0; p < 6; p++) {
            due.is("person", x.person(), p);
            due.is("told 0", x.told(0), p + 1);
        }
        due.is("person, the seventh", x.person(), -4);
        due.is("person, again", x.person(), -4);
        due.is("told 0", x.told(0), 6);
        due.is("balance of the last", x.balance(5), 0);
    }

    private static void owe() {
        due.promise(3);
        DebtRings x = Setups.people(3);
        due.is("owe to oneself", x.owe(1, 1, 5), -1);
        due.is("owe, i below", x.owe(-1, 1, 5), -1);
        due.is("owe, i above", x.owe(3, 1, 5), -1);
        due.is("owe, j below", x.owe(1, -1, 5), -1);
        due.is("owe, j above", x.owe(1, 3, 5), -1);
        due.is("owe, far off", x.owe(Integer.MIN_VALUE, Integer.MAX_VALUE, 5), -1);
        due.is("owe, NONE ahead of BAD", x.owe(1, 1, 0), -1);
        due.is("owe 0", x.owe(0, 1, 0), -2);
        due.is("owe -1", x.owe(0, 1, -1), -2);
        due.is("owe 100", x.owe(0, 1, 100), -2);
        due.is("owe a lot", x.owe(0, 1, Integer.MAX_VALUE), -2);
        due.is("nothing is owed", x.told(1), 0);
        due.is("owe 1", x.owe(0, 1, 1), 1);
        due.is("owe 99", x.owe(0, 1, 99), 100);
        due.is("the other way is another debt", x.owe(1, 0, 7), 7);
        due.is("of", x.of(0, 1, 0), 100);
        for (int total = 199; total <= 991; total += 99) {
            due.is("owe", x.owe(0, 1, 99), total);
        }
        due.is("owe beyond 999", x.owe(0, 1, 9), -4);
        due.is("BAD ahead of FULL", x.owe(0, 1, 100), -2);
        due.is("owe up to 999", x.owe(0, 1, 8), 999);
        due.is("owe beyond 999", x.owe(0, 1, 1), -4);
        due.is("of", x.of(0, 1, 0), 999);
        due.is("told 1", x.told(1), 2);
    }

    private static void pay() {
        due.promise(4);
        DebtRings x = Setups.owing(3, 0, 1, 120, 1, 2, 5);
        due.is("pay oneself", x.pay(1, 1, 5), -1);
        due.is("pay, i above", x.pay(3, 1, 5), -1);
        due.is("pay, j below", x.pay(0, -1, 5), -1);
        due.is("NONE ahead of BAD", x.pay(0, 3, 0), -1);
        due.is("pay 0", x.pay(0, 1, 0), -2);
        due.is("pay 100", x.pay(0, 1, 100), -2);
        due.is("pay -5", x.pay(0, 1, -5), -2);
        due.is("BAD ahead of STATE", x.pay(1, 0, 100), -2);
        due.is("pay what isn't owed", x.pay(1, 0, 1), -3);
        due.is("pay more than is owed", x.pay(1, 2, 6), -3);
        due.is("nothing was paid", x.told(4), 125);
        due.is("pay 99", x.pay(0, 1, 99), 21);
        due.is("pay 20", x.pay(0, 1, 20), 1);
        due.is("pay the rest", x.pay(0, 1, 1), 0);
        due.is("pay nothing left", x.pay(0, 1, 1), -3);
        due.is("told 1", x.told(1), 1);
        due.is("debt 0 0", x.debt(0, 0), 1);
    }

    private static void consent() {
        due.promise(5);
        DebtRings x = Setups.people(2);
        due.is("consent to oneself", x.consent(0, 0, true), -1);
        due.is("consent, j above", x.consent(0, 2, true), -1);
        due.is("consent, i below", x.consent(-1, 0, true), -1);
        due.is("consent at first", x.consent(0, 1, true), 1);
        due.is("consent no more", x.consent(0, 1, false), 1);
        due.is("consent still not", x.consent(0, 1, false), 0);
        due.is("the other way", x.of(1, 0, 1), 1);
        due.is("consent again", x.consent(0, 1, true), 0);
        due.is("of", x.of(0, 1, 1), 1);
        x.consent(0, 2, false);
        x.person();
        due.is("what was refused changed nothing", x.of(0, 2, 1), 1);
    }

    private static void of() {
        due.promise(6);
        DebtRings x = Setups.owing(4, 2, 3, 9, 0, 1, 4);
        x.consent(2, 3, false);
        due.is("of 0", x.of(2, 3, 0), 9);
        due.is("of 1", x.of(2, 3, 1), 0);
        due.is("of 2", x.of(2, 3, 2), 0);
        due.is("of 0", x.of(3, 2, 0), 0);
        due.is("of 1", x.of(3, 2, 1), 1);
        due.is("of 2, none", x.of(3, 2, 2), -5);
        due.is("of 2", x.of(0, 1, 2), 1);
        due.is("of -1", x.of(0, 1, -1), -1);
        due.is("of 3", x.of(0, 1, 3), -1);
        due.is("of oneself", x.of(1, 1, 0), -1);
        due.is("of, above", x.of(4, 1, 0), -1);
        due.is("of, below", x.of(0, -1, 2), -1);
    }

    private static void debt() {
        due.promise(7);
        DebtRings x = Setups.owing(4, 2, 3, 9, 0, 1, 4, 3, 0, 6);
        debtIs(x, 0, 2, 3, 9);
        debtIs(x, 1, 0, 1, 4);
        debtIs(x, 2, 3, 0, 6);
        x.owe(2, 3, 1);
        debtIs(x, 0, 2, 3, 10);
        x.pay(0, 1, 4);
        debtIs(x, 1, 3, 0, 6);
        due.is("debt 2", x.debt(2, 0), -1);
        x.owe(0, 1, 2);
        debtIs(x, 2, 0, 1, 2);
        due.is("debt -1", x.debt(-1, 0), -1);
        due.is("debt 3", x.debt(3, 0), -1);
        due.is("debt, what -1", x.debt(0, -1), -1);
        due.is("debt, what 3", x.debt(0, 3), -1);
        DebtRings all = Setups.people(6);
        for (int i = 0; i < 6; i++) {
            for (int j = 0; j < 6; j++) {
                all.owe(i, j, 1);
            }
        }
        due.is("all debts", all.told(1), 30);
        debtIs(all, 29, 5, 4, 1);
        due.is("debt 30", all.debt(30, 2), -1);
    }

    private static void debtIs(DebtRings x, int k, int who, int whom, int amount) {
        due.is("debt " + k + " 0", x.debt(k, 0), who);
        due.is("debt " + k + " 1", x.debt(k, 1), whom);
        due.is("debt " + k + " 2", x.debt(k, 2), amount);
        due.is("its number", x.of(who, whom, 2), k);
    }
}
