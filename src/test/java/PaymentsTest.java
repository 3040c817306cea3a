/** Promises 14 to 20: balances, groups, payments, those of the willing. */
public final class PaymentsTest {
    private static final Due due = new Due("PaymentsTest");

    public static void main(String[] args) {
        balance();
        group();
        groupsOfSeveralWays();
        payment();
        willing();
        settle();
        settleRefused();
        told();
        without();
        due.end();
    }

    private static void balance() {
        due.promise(14);
        DebtRings x = Setups.owing(4, 0, 1, 10, 1, 2, 4, 2, 0, 3, 0, 2, 1);
        long[] balances = {-8, 6, 2, 0};
        for (int p = 0; p < 4; p++) {
            due.is("balance " + p, x.balance(p), balances[p]);
        }
        due.is("balance 4", x.balance(4), Long.MIN_VALUE);
        due.is("balance -1", x.balance(-1), Long.MIN_VALUE);
        DebtRings most = Setups.people(6);
        for (int p = 1; p < 6; p++) {
            Setups.oweAll(most, p, 0, 999);
        }
        due.is("the greatest balance", most.balance(0), 4995);
        due.is("balance 5", most.balance(5), -999);
    }

    private static void group() {
        due.promise(15);
        DebtRings x = Setups.people(3);
        due.is("no groups", x.group(0), -1);
        x.owe(0, 2, 5);
        groupsAre(x, 5);
        x.owe(2, 1, 5);
        groupsAre(x, 3);
        x.owe(1, 0, 5);
        groupsAre(x);
        DebtRings three = Setups.owing(6, 0, 5, 7, 1, 4, 7, 2, 3, 8);
        groupsAre(three, 17, 34, 12);
        DebtRings ofThree = Setups.owing(6, 0, 4, 3, 1, 4, 5, 2, 5, 4, 3, 5, 6);
        groupsAre(ofThree, 19, 44);
        due.is("group, far off", three.group(Integer.MIN_VALUE), -1);
    }

    /** Balances that can be parted into as many groups in several ways. */
    private static void groupsOfSeveralWays() {
        due.promise(15);
        // 0 and 1 have -5, 2 and 3 have 5: the least one goes with the least bits.
        groupsAre(Setups.owing(4, 0, 3, 5, 1, 2, 5), 5, 10);
        // 0 has 5, 1 has -5, 2 has 5, 3 has -5.
        groupsAre(Setups.owing(4, 3, 0, 5, 1, 2, 5), 3, 12);
        // -1 -2 3 | 1 2 -3: three groups of two go ahead of two groups of three.
        groupsAre(Setups.owing(6, 0, 2, 1, 1, 2, 2, 5, 3, 1, 5, 4, 2), 9, 18, 36);
        // The first group with least bits is not always the smallest: -3, 1, 2, -3, 3, 0.
        groupsAre(Setups.owing(6, 0, 1, 1, 0, 2, 2, 3, 4, 3), 7, 24);
        // The second group is chosen by its own least one: -2 (0), 1 (1), 1 (2), 1 (3), 1 (4), -2 (5).
        groupsAre(Setups.owing(6, 0, 3, 1, 0, 4, 1, 5, 1, 1, 5, 2, 1), 7, 56);
    }

    private static void groupsAre(DebtRings x, int... groups) {
        Setups.groupsAre(due, x, groups);
    }

    private static void payment() {
        due.promise(16);
        DebtRings none = Setups.owing(2, 0, 1, 3, 1, 0, 3);
        due.is("no payments", none.payment(0, 0), -1);
        DebtRings x = Setups.owing(6, 0, 4, 3, 1, 4, 5, 2, 5, 4, 3, 5, 6);
        int[][] rows = {{0, 4, 3}, {1, 4, 5}, {2, 5, 4}, {3, 5, 6}};
        paymentsAre(x, rows);
        // One group: -4 (0), 1 (1), -2 (2), 5 (3).
        DebtRings chain = Setups.owing(4, 0, 3, 4, 2, 3, 1, 2, 1, 1);
        paymentsAre(chain, new int[][] {{0, 1, 1}, {0, 3, 3}, {2, 3, 2}});
        // Groups go one behind the other, whoever pays: {0, 5}, {1, 2}.
        DebtRings twice = Setups.owing(6, 5, 0, 9, 1, 2, 4);
        paymentsAre(twice, new int[][] {{5, 0, 9}, {1, 2, 4}});
        due.is("k -1", x.payment(-1, 0), -1);
        due.is("what -1", x.payment(0, -1), -1);
        due.is("what 3", x.payment(0, 3), -1);
        due.is("k far off", x.payment(Integer.MAX_VALUE, 0), -1);
    }

    private static void paymentsAre(DebtRings x, int[][] rows) {
        Setups.paymentsAre(due, x, rows);
    }

    private static void willing() {
        due.promise(17);
        // -5 (0), 5 (1), -3 (2), 3 (3): two groups, but the willing do not go by groups.
        DebtRings x = Setups.owing(4, 0, 1, 5, 2, 3, 3);
        willingAre(x, new int[][] {{0, 1, 5}, {2, 3, 3}});
        x.consent(0, 1, false);
        willingAre(x, new int[][] {{0, 3, 3}, {2, 1, 3}});
        due.is("left", x.told(11), 2);
        due.is("payments stay", x.payment(0, 1), 1);
        x.consent(2, 1, false);
        willingAre(x, new int[][] {{0, 3, 3}});
        due.is("left", x.told(11), 5);
        x.consent(0, 3, false);
        willingAre(x, new int[][] {{2, 3, 3}});
        x.consent(2, 3, false);
        willingAre(x, new int[][] {});
        due.is("left", x.told(11), 8);
        due.is("willing k -1", x.willing(-1, 0), -1);
        x.consent(2, 3, true);
        due.is("what 3", x.willing(0, 3), -1);
        due.is("what -1", x.willing(0, -1), -1);
        // By balances of all, not by groups: -5 (0), 3 (1), -3 (2), 5 (3).
        DebtRings y = Setups.owing(4, 0, 3, 5, 2, 1, 3);
        willingAre(y, new int[][] {{0, 1, 3}, {0, 3, 2}, {2, 3, 3}});
        due.is("told 8", y.told(8), 2);
        due.is("left", y.told(11), 0);
        willingAre(Setups.owing(3, 2, 0, 4, 1, 0, 3), new int[][] {{1, 0, 3}, {2, 0, 4}});
    }

    private static void willingAre(DebtRings x, int[][] rows) {
        Setups.willingAre(due, x, rows);
    }

    private static void settle() {
        due.promise(18);
        due.is("settle, nobody", new DebtRings().settle(), 0);
        DebtRings x = Setups.owing(6, 3, 5, 6, 1, 4, 5, 2, 5, 4, 0, 4, 3, 0, 1, 1, 1, 0, 1);
        x.cut(0, 1);
        x.owe(0, 1, 1);
        x.owe(1, 0, 1);
        due.is("settle", x.settle(), 6);
        int[][] rows = {{0, 4, 3}, {1, 4, 5}, {2, 5, 4}, {3, 5, 6}};
        for (int k = 0; k < rows.length; k++) {
            for (int what = 0; what < 3; what++) {
                due.is("debt " + k + " " + what, x.debt(k, what), rows[k][what]);
            }
        }
        due.is("told 1", x.told(1), 4);
        due.is("of 0 1", x.of(0, 1, 0), 0);
        due.is("the trail stays", x.told(3), 1);
        due.is("settle again", x.settle(), 4);
        due.is("nothing more", x.told(1), 4);
        DebtRings even = Setups.owing(2, 0, 1, 3, 1, 0, 3);
        due.is("all is even", even.settle(), 2);
        due.is("no debts then", even.told(1), 0);
    }

    private static void settleRefused() {
        DebtRings x = Setups.owing(3, 0, 1, 999, 0, 2, 1, 2, 1, 1);
        due.is("a payment of 1000", x.payment(0, 2), 1000);
        due.is("settle", x.settle(), -3);
        due.is("all stays", x.told(4), 1001);
        due.is("debts stay", x.told(1), 3);
        due.is("their order stays", x.of(2, 1, 2), 2);
        x.pay(2, 1, 1);
        x.pay(0, 2, 1);
        due.is("a payment of 999", x.payment(0, 2), 999);
        due.is("settle", x.settle(), 1);
    }

    private static void told() {
        due.promise(19);
        // Balances -3, -5, -4, -6, 8, 10; a ring of 1 and 4; 2 does not consent to 5.
        DebtRings x = Setups.owing(6, 0, 4, 3, 1, 4, 7, 4, 1, 2, 2, 5, 4, 3, 5, 6);
        x.consent(2, 5, false);
        int[] all = {6, 5, 1, 0, 22, 18, 6, 2, 4, 3, 3, 4};
        for (int what = 0; what < all.length; what++) {
            due.is("told " + what, x.told(what), all[what]);
        }
        due.is("told -1", x.told(-1), -1);
        due.is("told 12", x.told(12), -1);
        x.cut(0, 40);
        due.is("told 1", x.told(1), 4);
        due.is("told 2", x.told(2), 0);
        due.is("told 3", x.told(3), 1);
        due.is("told 4", x.told(4), 18);
        x.consent(0, 4, false);
        x.consent(1, 5, false);
        due.is("told 9", x.told(9), 2);
        due.is("told 10", x.told(10), 4);
        // 1 pays 0, 3 pays 2.
        DebtRings y = Setups.owing(4, 1, 0, 3, 3, 2, 4);
        due.is("told 5", y.told(5), 7);
        due.is("told 9", y.told(9), 2);
        y.consent(0, 1, false);
        due.is("the payee need not consent", y.told(9), 2);
        y.consent(3, 2, false);
        due.is("told 9", y.told(9), 1);
        y.consent(1, 0, false);
        due.is("told 9", y.told(9), 0);
        // The willing pay crosswise then: 1 pays 2 and 3 pays 0, 3 each, and 2 has 1 left.
        due.is("told 10", y.told(10), 2);
        due.is("told 11", y.told(11), 1);
    }

    private static void without() {
        due.promise(20);
        // 0 to 1 to 2 to 3: balances -5, 0, 0, 5.
        DebtRings x = Setups.owing(4, 0, 1, 5, 1, 2, 5, 2, 3, 5);
        due.is("told 8", x.told(8), 1);
        due.is("without 0", x.without(0), 1);
        due.is("without 1", x.without(1), 1);
        due.is("without 3", x.without(3), 1);
        x.owe(0, 3, 2);
        due.is("without 1", x.without(1), 2);
        due.is("nothing changed", x.told(4), 17);
        due.is("without 4", x.without(4), -1);
        due.is("without -1", x.without(-1), -1);
        DebtRings pair = Setups.owing(2, 0, 1, 5);
        due.is("without 0", pair.without(0), 0);
        due.is("without 1", pair.without(1), 0);
    }
}
