/** Sentence by sentence, what the document says of edges of balances, groups and payments: promises 14 to 20. */
public final class EdgesOfPaymentsTest {
    private static final int NONE = -1, STATE = -3;
    private static final long NO = Long.MIN_VALUE;
    private static final Due due = new Due("EdgesOfPaymentsTest");

    public static void main(String[] args) {
        balances();
        open();
        bits();
        asManyGroupsAsCanBe();
        leastBits();
        leastBitsOfTheNext();
        toldInThisOrder();
        setsOfNothing();
        groupByGroup();
        leastPays();
        lesserIsPaid();
        fewest();
        totals();
        kept();
        willingOnes();
        leastOfTheWilling();
        left();
        withoutAPerson();
        balanceOfNobody();
        groupNumbers();
        paymentNumbers();
        willingNumbers();
        settled();
        settledInOrder();
        settleRefused();
        toldNumbers();
        withoutNobody();
        due.end();
    }

    private static void balancesAre(DebtRings x, int... balances) {
        for (int p = 0; p < balances.length; p++) {
            due.is("balance " + p, x.balance(p), balances[p]);
        }
    }

    private static void balances() {
        due.sentence(0, "BALANCE of a PERSON: what all others OWE that one, less what that one OWES all");
        balancesAre(Setups.people(6), 0, 0, 0, 0, 0, 0);
        balancesAre(Setups.owing(2, 0, 1, 1), -1, 1);
        balancesAre(Setups.owing(2, 0, 1, 999, 1, 0, 999), 0, 0);
        balancesAre(Setups.owing(6, 0, 1, 999, 0, 2, 999, 0, 3, 999, 0, 4, 999, 0, 5, 999),
            -4995, 999, 999, 999, 999, 999);
        balancesAre(Setups.owing(6, 0, 5, 999, 1, 5, 999, 2, 5, 999, 3, 5, 999, 4, 5, 999),
            -999, -999, -999, -999, -999, 4995);
        balancesAre(Setups.allOwing(7), 0, 0, 0, 0, 0, 0);
    }

    private static void open() {
        due.sentence(0, "OPEN: PEOPLE with a BALANCE that isn't 0");
        due.is("nobody", new DebtRings().told(6), 0);
        due.is("nobody owes", Setups.people(6).told(6), 0);
        due.is("1 below, 1 above", Setups.owing(3, 2, 1, 1).told(6), 2);
        due.is("all are even", Setups.allOwing(3).told(6), 0);
        due.is("one between is even", Setups.owing(3, 0, 1, 4, 1, 2, 4).told(6), 2);
        due.is("all six", Setups.owing(6, 0, 1, 1, 2, 3, 1, 4, 5, 1).told(6), 6);
        Setups.groupsAre(due, Setups.owing(3, 0, 1, 4, 1, 2, 4), 5);
        Setups.groupsAre(due, Setups.owing(6, 0, 1, 4, 1, 5, 4), 33);
    }

    private static void bits() {
        due.sentence(0, "BITS of a set: of each PERSON p 2 to the p, together");
        for (int i = 0; i < 6; i++) {
            for (int j = 0; j < 6; j++) {
                if (i != j) {
                    Setups.groupsAre(due, Setups.owing(6, i, j, 5), (1 << i) + (1 << j));
                }
            }
        }
        Setups.groupsAre(due, Setups.owing(6, 0, 5, 1, 1, 5, 2, 2, 5, 4, 3, 5, 8, 4, 5, 16), 63);
    }

    private static void asManyGroupsAsCanBe() {
        due.sentence(0, "GROUPS: OPEN PEOPLE, parted into as many GROUPS as can be");
        Setups.groupsAre(due, Setups.people(6));
        DebtRings x = Setups.owing(2, 0, 1, 5);
        Setups.groupsAre(due, x, 3);
        x.owe(1, 0, 5);
        Setups.groupsAre(due, x);
        // 0 .. 2 are nothing together, but pairs are more groups: -1 -2 3 1 2 -3.
        Setups.groupsAre(due, Setups.owing(6, 0, 2, 1, 1, 2, 2, 5, 3, 1, 5, 4, 2), 9, 18, 36);
        // A pair and four that can't be parted: -9 9 -1 -2 -4 7.
        Setups.groupsAre(due, Setups.owing(6, 0, 1, 9, 2, 5, 1, 3, 5, 2, 4, 5, 4), 3, 60);
        // Two of three people each, no pair among them: -1 -2 3 -10 -20 30.
        Setups.groupsAre(due, Setups.owing(6, 0, 2, 1, 1, 2, 2, 3, 5, 10, 4, 5, 20), 7, 56);
        // Though a chain of debts joins all of them: -5 0 5, then -6 6.
        Setups.groupsAre(due, Setups.owing(5, 0, 1, 5, 1, 2, 5, 3, 4, 6, 2, 3, 1, 3, 2, 1), 5, 24);
    }

    private static void leastBits() {
        due.sentence(0, "of several ways that by which the GROUP of the least of them has least BITS");
        // -5 -5 5 5: 0 goes with 2, not with 3.
        Setups.groupsAre(due, Setups.owing(4, 0, 3, 5, 1, 2, 5), 5, 10);
        // -3 1 2 -3 3: the three people 0 1 2 (7) go ahead of the two 0 4 (17).
        Setups.groupsAre(due, Setups.owing(5, 0, 1, 1, 0, 2, 2, 3, 4, 3), 7, 24);
        // The least one that is open is 1: -5 -5 5 5 of 1 .. 4.
        Setups.groupsAre(due, Setups.owing(5, 1, 4, 5, 2, 3, 5), 10, 20);
    }

    private static void leastBitsOfTheNext() {
        due.sentence(0, "of several of these that of the least PERSON of all others, and so on");
        // -7 7, then -1 -1 1 1: 2 goes with 4.
        Setups.groupsAre(due, Setups.owing(6, 0, 1, 7, 2, 5, 1, 3, 4, 1), 3, 20, 40);
        // -7 (0), 7 (5), then -1 1 -1 1 of 1 .. 4: 1 goes with 2.
        Setups.groupsAre(due, Setups.owing(6, 0, 5, 7, 1, 4, 1, 3, 2, 1), 33, 6, 24);
        // -1 -1 -1 1 1 1: each goes with the least that is left.
        Setups.groupsAre(due, Setups.owing(6, 0, 5, 1, 1, 4, 1, 2, 3, 1), 9, 18, 36);
        // 1 -1 1 -1 1 -1.
        Setups.groupsAre(due, Setups.owing(6, 5, 0, 1, 3, 2, 1, 1, 4, 1), 3, 12, 48);
    }

    private static void toldInThisOrder() {
        due.sentence(0, "(They are told in this order.)");
        Setups.groupsAre(due, Setups.owing(6, 0, 5, 3, 1, 4, 4, 2, 3, 5), 33, 18, 12);
        Setups.groupsAre(due, Setups.owing(6, 0, 5, 3, 1, 2, 4), 33, 6);
    }

    private static void setsOfNothing() {
        due.sentence(0, "A GROUP: a set of OPEN PEOPLE whose BALANCES are 0 together");
        // Who is even is in none, though what is left would be 0 together with any of them.
        Setups.groupsAre(due, Setups.owing(6, 0, 1, 4, 1, 3, 4, 2, 5, 6, 5, 2, 6), 9);
        // -999 of five each, and one short of it: they are one.
        Setups.groupsAre(due, Setups.owing(6, 0, 5, 999, 1, 5, 999, 2, 5, 999, 3, 5, 999, 4, 5, 998), 63);
        // -4 4 -6 6, and one more from 0 to 3: -5 4 -6 7, no two of which are 0 together.
        Setups.groupsAre(due, Setups.owing(4, 0, 1, 4, 2, 3, 6), 3, 12);
        Setups.groupsAre(due, Setups.owing(4, 0, 1, 4, 2, 3, 6, 0, 3, 1), 15);
    }

    private static void groupByGroup() {
        due.sentence(0, "PAYMENTS: GROUP by GROUP, as long as one in it has a BALANCE left below 0");
        Setups.paymentsAre(due, Setups.people(6));
        Setups.paymentsAre(due, Setups.allOwing(5));
        // {0, 5}, {1, 4}, {2, 3}: told in the order of groups, whoever pays.
        Setups.paymentsAre(due, Setups.owing(6, 2, 3, 1, 4, 1, 2, 5, 0, 3),
            new int[] {5, 0, 3}, new int[] {4, 1, 2}, new int[] {2, 3, 1});
        // {0, 1, 5} with two payments, then {2, 3}.
        Setups.paymentsAre(due, Setups.owing(6, 2, 3, 9, 0, 5, 1, 1, 5, 2),
            new int[] {0, 5, 1}, new int[] {1, 5, 2}, new int[] {2, 3, 9});
    }

    private static void leastPays() {
        due.sentence(0, "the least PERSON who has pays the least whose BALANCE left is above 0");
        // One group: -4 1 -2 5.
        Setups.paymentsAre(due, Setups.owing(4, 0, 3, 4, 2, 3, 1, 2, 1, 1),
            new int[] {0, 1, 1}, new int[] {0, 3, 3}, new int[] {2, 3, 2});
        // One group, who is paid is less: 3 4 -5 -2.
        Setups.paymentsAre(due, Setups.owing(4, 2, 0, 3, 2, 1, 2, 3, 1, 2),
            new int[] {2, 0, 3}, new int[] {2, 1, 2}, new int[] {3, 1, 2});
        // Group by group: 5 pays 0 ahead of 1, who pays 2.
        Setups.paymentsAre(due, Setups.owing(6, 5, 0, 9, 1, 2, 4), new int[] {5, 0, 9}, new int[] {1, 2, 4});
        // Nobody pays into another group, though one there is less: -5 -5 5 5.
        Setups.paymentsAre(due, Setups.owing(4, 0, 3, 5, 1, 2, 5), new int[] {0, 2, 5}, new int[] {1, 3, 5});
    }

    private static void lesserIsPaid() {
        due.sentence(0, "the lesser of what both have left (without sign); both have that less");
        Setups.paymentsAre(due, Setups.owing(2, 1, 0, 1), new int[] {1, 0, 1});
        Setups.paymentsAre(due, Setups.owing(2, 1, 0, 999), new int[] {1, 0, 999});
        Setups.paymentsAre(due, Setups.owing(3, 0, 1, 4, 0, 2, 6), new int[] {0, 1, 4}, new int[] {0, 2, 6});
        Setups.paymentsAre(due, Setups.owing(3, 0, 2, 4, 1, 2, 6), new int[] {0, 2, 4}, new int[] {1, 2, 6});
        Setups.paymentsAre(due, Setups.owing(3, 0, 1, 999, 0, 2, 999, 2, 1, 999), new int[] {0, 1, 1998});
    }

    private static void fewest() {
        due.sentence(0, "FEWEST: how many PAYMENTS there are");
        due.is("nobody", new DebtRings().told(8), 0);
        due.is("all are even", Setups.allOwing(2).told(8), 0);
        due.is("one", Setups.owing(6, 5, 4, 1).told(8), 1);
        due.is("three pairs", Setups.owing(6, 0, 1, 1, 2, 3, 2, 4, 5, 3).told(8), 3);
        DebtRings x = Setups.owing(6, 0, 5, 1, 1, 5, 2, 2, 5, 4, 3, 5, 8, 4, 5, 16);
        Setups.paymentsAre(due, x, new int[] {0, 5, 1}, new int[] {1, 5, 2}, new int[] {2, 5, 4},
            new int[] {3, 5, 8}, new int[] {4, 5, 16});
    }

    private static void totals() {
        due.sentence(0, "TOTAL: all DEBTS together. NET: all BALANCES above 0 together");
        due.is("nobody, TOTAL", new DebtRings().told(4), 0);
        due.is("nobody, NET", new DebtRings().told(5), 0);
        for (int p = 0; p < 6; p++) {
            due.is("one is owed, NET", Setups.owing(6, (p + 1) % 6, p, 7).told(5), 7);
        }
        DebtRings all = Setups.allOwing(999);
        due.is("all that can be, TOTAL", all.told(4), 29970);
        due.is("all are even, NET", all.told(5), 0);
        DebtRings most = Setups.owing(6, 0, 3, 999, 0, 4, 999, 0, 5, 999, 1, 3, 999, 1, 4, 999, 1, 5, 999,
            2, 3, 999, 2, 4, 999, 2, 5, 999);
        due.is("the greatest NET", most.told(5), 8991);
        due.is("TOTAL of it", most.told(4), 8991);
    }

    private static void kept() {
        due.sentence(0, "KEPT: how many of PAYMENTS the payers CONSENT to");
        DebtRings x = Setups.owing(6, 0, 1, 1, 3, 2, 2, 4, 5, 3);
        due.is("all of them", x.told(9), 3);
        x.consent(1, 0, false);
        x.consent(2, 3, false);
        x.consent(0, 2, false);
        due.is("the payees, and other payees, do not matter", x.told(9), 3);
        x.consent(3, 2, false);
        due.is("one less", x.told(9), 2);
        x.consent(0, 1, false);
        x.consent(4, 5, false);
        due.is("none of them", x.told(9), 0);
        due.is("they are payments still", x.told(8), 3);
        due.is("no payments", Setups.people(6).told(9), 0);
    }

    private static void willingOnes() {
        due.sentence(0, "as long as there is a PERSON with a BALANCE left below 0, and one with a BALANCE left above 0 "
            + "to whom that one CONSENTS");
        Setups.willingAre(due, Setups.people(6));
        Setups.willingAre(due, Setups.allOwing(2));
        DebtRings x = Setups.owing(2, 0, 1, 5);
        Setups.willingAre(due, x, new int[] {0, 1, 5});
        x.consent(1, 0, false);
        Setups.willingAre(due, x, new int[] {0, 1, 5});
        x.consent(0, 1, false);
        Setups.willingAre(due, x);
        due.is("LEFT", x.told(11), 5);
        // Who is even pays nobody, though willing: -5 0 5.
        DebtRings even = Setups.owing(3, 0, 1, 5, 1, 2, 5);
        even.consent(0, 2, false);
        Setups.willingAre(due, even);
    }

    private static void leastOfTheWilling() {
        due.sentence(0, "of these two that of least payer, of several of least payee; the lesser of what both have "
            + "left is paid");
        // -5 -3 3 5: not by groups.
        DebtRings x = Setups.owing(4, 0, 3, 5, 1, 2, 3);
        Setups.willingAre(due, x, new int[] {0, 2, 3}, new int[] {0, 3, 2}, new int[] {1, 3, 3});
        x.consent(0, 2, false);
        Setups.willingAre(due, x, new int[] {0, 3, 5}, new int[] {1, 2, 3});
        x.consent(1, 2, false);
        Setups.willingAre(due, x, new int[] {0, 3, 5});
        due.is("LEFT", x.told(11), 3);
        x.consent(0, 3, false);
        Setups.willingAre(due, x, new int[] {1, 3, 3});
        due.is("LEFT", x.told(11), 5);
        // 5 are paid by one: the most payments that there are.
        Setups.willingAre(due, Setups.owing(6, 5, 0, 1, 5, 1, 2, 5, 2, 4, 5, 3, 8, 5, 4, 16), new int[] {5, 0, 1},
            new int[] {5, 1, 2}, new int[] {5, 2, 4}, new int[] {5, 3, 8}, new int[] {5, 4, 16});
        Setups.willingAre(due, Setups.owing(6, 0, 3, 2, 1, 3, 2, 1, 4, 2, 2, 4, 2, 2, 5, 2), new int[] {0, 3, 2},
            new int[] {1, 3, 2}, new int[] {1, 4, 2}, new int[] {2, 4, 2}, new int[] {2, 5, 2});
    }

    private static void left() {
        due.sentence(0, "LEFT: what is owed still behind them (BALANCES left above 0, together)");
        DebtRings x = Setups.owing(6, 0, 1, 10, 2, 3, 20, 4, 5, 40);
        due.is("nothing", x.told(11), 0);
        for (int payer = 0; payer < 6; payer += 2) {
            for (int payee = 1; payee < 6; payee += 2) {
                x.consent(payer, payee, false);
            }
        }
        due.is("nobody is willing: NET", x.told(11), 70);
        due.is("NET", x.told(5), 70);
        x.consent(4, 1, true);
        due.is("4 pays 10 to 1", x.told(11), 60);
        x.consent(2, 5, true);
        due.is("2 pays 20 to 5, too", x.told(11), 40);
        due.is("nobody is there", new DebtRings().told(11), 0);
    }

    private static void withoutAPerson() {
        due.sentence(0, "WITHOUT a PERSON: FEWEST, if that one OWED nobody anything, and nobody that one");
        due.is("of two", Setups.owing(2, 0, 1, 5).without(1), 0);
        due.is("who has no debts", Setups.owing(3, 0, 1, 5).without(2), 1);
        // 0 1 2 3 in a chain, each 5: -5 0 0 5.
        for (int p = 0; p < 4; p++) {
            DebtRings x = Setups.owing(4, 0, 1, 5, 1, 2, 5, 2, 3, 5);
            due.is("of a chain, " + p, x.without(p), 1);
        }
        // In a ring of six nobody is open, but the two beside one that is missed are.
        DebtRings ring = Setups.owing(6, 0, 1, 5, 1, 2, 5, 2, 3, 5, 3, 4, 5, 4, 5, 5, 5, 0, 5);
        due.is("FEWEST of the ring", ring.told(8), 0);
        for (int p = 0; p < 6; p++) {
            due.is("without " + p, ring.without(p), 1);
        }
        // 0 stands between: who owed 0 1 and 2, whom 0 owed 4 and 8, are even without.
        DebtRings star = Setups.owing(5, 1, 0, 1, 2, 0, 2, 0, 3, 4, 0, 4, 8);
        due.is("FEWEST of the star", star.told(8), 4);
        due.is("without its middle", star.without(0), 0);
        due.is("without 1", star.without(1), 3);
    }

    private static void balanceOfNobody() {
        due.sentence(14, "BALANCE. NO: no such PERSON");
        for (int count = 0; count <= 6; count++) {
            for (int person : new int[] {Integer.MIN_VALUE, -2, -1, 0, 1, 2, 3, 4, 5, 6, 7, Integer.MAX_VALUE}) {
                due.is(count + " people, balance " + person, Setups.people(count).balance(person),
                    person >= 0 && person < count ? 0 : NO);
            }
        }
    }

    private static void groupNumbers() {
        due.sentence(15, "BITS of the k-th (from 0) of GROUPS. NONE");
        due.only("k", 0, 2, NONE, k -> Setups.owing(6, 0, 1, 1, 2, 3, 2, 4, 5, 3).group(k));
        due.only("k of one", 0, 0, NONE, k -> Setups.owing(6, 0, 1, 1).group(k));
        due.is("there are none", Setups.people(6).group(0), NONE);
        due.is("nobody is there", new DebtRings().group(0), NONE);
    }

    private static void paymentNumbers() {
        due.sentence(16, "Of the k-th (from 0) of PAYMENTS what 0 the payer, 1 the payee, 2 the amount. NONE: k, what");
        int[] five = {0, 5, 1, 1, 5, 2, 2, 5, 4, 3, 5, 8, 4, 5, 16};
        due.only("k", 0, 4, NONE, k -> Setups.owing(6, five).payment(k, 2));
        due.only("what", 0, 2, NONE, what -> Setups.owing(6, five).payment(4, what));
        due.is("there are none", Setups.allOwing(1).payment(0, 0), NONE);
        due.is("nobody is there", new DebtRings().payment(0, 0), NONE);
    }

    private static void willingNumbers() {
        due.sentence(17, "Of the k-th (from 0) payment by WILLING likewise");
        int[] five = {0, 5, 1, 1, 5, 2, 2, 5, 4, 3, 5, 8, 4, 5, 16};
        due.only("k", 0, 4, NONE, k -> Setups.owing(6, five).willing(k, 2));
        due.only("what", 0, 2, NONE, what -> Setups.owing(6, five).willing(4, what));
        due.is("there are none", Setups.allOwing(1).willing(0, 0), NONE);
        due.is("nobody is there", new DebtRings().willing(0, 0), NONE);
    }

    private static void settled() {
        due.sentence(18, "how many DEBTS there were ahead of it");
        due.is("nobody", new DebtRings().settle(), 0);
        due.is("nothing is owed", Setups.people(6).settle(), 0);
        DebtRings all = Setups.allOwing(999);
        due.is("all that can be", all.settle(), 30);
        due.is("all are even", all.told(1), 0);
        due.is("none then", all.settle(), 0);
        DebtRings x = Setups.trailOf(40);
        x.owe(0, 1, 5);
        x.owe(1, 0, 9);
        due.is("two", x.settle(), 2);
        Setups.debtsAre(due, x, new int[] {1, 0, 4});
        due.is("THE TRAIL stays", x.told(3), 40);
    }

    private static void settledInOrder() {
        due.sentence(18, "DEBTS are PAYMENTS from now on, in their order (THE TRAIL stays)");
        DebtRings x = Setups.owing(6, 1, 2, 4, 5, 0, 9, 3, 4, 2);
        due.is("settle", x.settle(), 3);
        Setups.debtsAre(due, x, new int[] {5, 0, 9}, new int[] {1, 2, 4}, new int[] {3, 4, 2});
        // A debt that is a payment, too, does not keep its place.
        DebtRings y = Setups.owing(6, 2, 3, 5, 0, 1, 4);
        due.is("settle", y.settle(), 2);
        Setups.debtsAre(due, y, new int[] {0, 1, 4}, new int[] {2, 3, 5});
        y.owe(2, 3, 1);
        y.owe(1, 0, 1);
        Setups.debtsAre(due, y, new int[] {0, 1, 4}, new int[] {2, 3, 6}, new int[] {1, 0, 1});
    }

    private static void settleRefused() {
        due.sentence(18, "STATE: one of PAYMENTS is above 999");
        DebtRings x = Setups.owing(6, 4, 5, 3, 0, 1, 999, 0, 2, 1, 2, 1, 1);
        Setups.paymentsAre(due, x, new int[] {0, 1, 1000}, new int[] {4, 5, 3});
        due.is("1000", x.settle(), STATE);
        Setups.debtsAre(due, x, new int[] {4, 5, 3}, new int[] {0, 1, 999}, new int[] {0, 2, 1}, new int[] {2, 1, 1});
        x.pay(0, 1, 1);
        due.is("999", x.settle(), 4);
        Setups.debtsAre(due, x, new int[] {0, 1, 999}, new int[] {4, 5, 3});
        DebtRings last = Setups.owing(6, 0, 1, 3, 4, 5, 999, 4, 2, 1, 2, 5, 1);
        due.is("the last one is 1000", last.settle(), STATE);
        due.is("told 1", last.told(1), 4);
        // A balance of 4995 is paid in parts of 999.
        DebtRings most = Setups.owing(6, 0, 5, 999, 1, 5, 999, 2, 5, 999, 3, 5, 999, 4, 5, 999);
        due.is("none is above 999", most.settle(), 5);
    }

    private static void toldNumbers() {
        due.sentence(19, "how many, how much. NONE");
        due.only("what", 0, 11, NONE, what -> new DebtRings().told(what));
        due.only("what", 0, 11, NONE, what -> Setups.owing(6, 0, 1, 1, 2, 3, 2, 4, 5, 3).told(what));
        for (int what = 0; what <= 11; what++) {
            due.is("new, told " + what, new DebtRings().told(what), 0);
        }
        // Balances -3 -5 -4 -6 8 10; a ring of 1 and 4; 2 does not consent to 5.
        DebtRings x = Setups.owing(6, 0, 4, 3, 1, 4, 7, 4, 1, 2, 2, 5, 4, 3, 5, 6);
        x.consent(2, 5, false);
        int[] all = {6, 5, 1, 0, 22, 18, 6, 2, 4, 3, 3, 4};
        for (int what = 0; what <= 11; what++) {
            due.is("told " + what, x.told(what), all[what]);
        }
    }

    private static void withoutNobody() {
        due.sentence(20, "WITHOUT. NONE");
        due.only("of six", 0, 5, NONE, person -> Setups.people(6).without(person));
        due.only("of one", 0, 0, NONE, person -> Setups.people(1).without(person));
        due.is("nobody is there", new DebtRings().without(0), NONE);
    }
}
