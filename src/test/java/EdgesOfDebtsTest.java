/** Sentence by sentence, what the document says of edges of people, debts and consents: promises 1 to 7. */
public final class EdgesOfDebtsTest {
    private static final int NONE = -1, BAD = -2, STATE = -3, FULL = -4;
    private static final long NO = Long.MIN_VALUE;
    private static final Due due = new Due("EdgesOfDebtsTest");

    public static void main(String[] args) {
        sixPeople();
        owedUpTo999();
        debtsAboveNothing();
        debtsInOrder();
        consentsAtFirst();
        pairs();
        newObject();
        personIsFull();
        oweAmounts();
        oweIsFull();
        payAmounts();
        payTooMuch();
        consentWas();
        ofWhat();
        debtNumbers();
        constants();
        due.end();
    }

    private static void sixPeople() {
        due.sentence(0, "PEOPLE 0 .. 5, as they come");
        DebtRings x = new DebtRings();
        due.is("balance of the first, ahead of it", x.balance(0), NO);
        for (int p = 0; p <= 5; p++) {
            due.is("person()", x.person(), p);
            due.is("balance of the newest", x.balance(p), 0);
            due.is("balance of the next", x.balance(p + 1), NO);
        }
        due.is("balance of -1", x.balance(-1), NO);
        due.is("the last owes", x.owe(5, 0, 1), 1);
        due.is("to the last", x.owe(0, 5, 1), 1);
    }

    private static void owedUpTo999() {
        due.sentence(0, "What a PERSON OWES another one: 0 .. 999 (0 at first)");
        DebtRings x = Setups.people(6);
        for (int i = 0; i < 6; i++) {
            for (int j = 0; j < 6; j++) {
                due.is("of " + i + " " + j, x.of(i, j, 0), i == j ? NONE : 0);
            }
        }
        Setups.oweAll(x, 4, 5, 998);
        due.is("998 and 1", x.owe(4, 5, 1), 999);
        due.is("999 and 1", x.owe(4, 5, 1), FULL);
        due.is("it is 999 still", x.of(4, 5, 0), 999);
        due.is("the other way is nothing still", x.of(5, 4, 0), 0);
        for (int rest = 900; rest >= 9; rest -= 99) {
            due.is("pay 99", x.pay(4, 5, 99), rest);
        }
        due.is("pay the last 9", x.pay(4, 5, 9), 0);
        due.is("no less than 0", x.pay(4, 5, 1), STATE);
        due.is("it is 0", x.of(4, 5, 0), 0);
    }

    private static void debtsAboveNothing() {
        due.sentence(0, "DEBTS: all that are above 0");
        DebtRings x = Setups.people(3);
        due.is("none at first", x.told(1), 0);
        due.is("debt 0", x.debt(0, 0), NONE);
        x.owe(0, 1, 1);
        due.is("1 is one", x.told(1), 1);
        x.pay(0, 1, 1);
        due.is("0 is none", x.told(1), 0);
        due.is("debt 0", x.debt(0, 0), NONE);
        due.is("its number", x.of(0, 1, 2), -5);
        x.owe(0, 1, 2);
        x.pay(0, 1, 1);
        due.is("what is left is one", x.told(1), 1);
        DebtRings all = Setups.allOwing(1);
        due.is("30 at most", all.told(1), 30);
        due.is("debt 29", all.debt(29, 0), 5);
        due.is("debt 30", all.debt(30, 0), NONE);
        due.is("all are one ring at least", all.cut(0, 40), 15);
        due.is("none is left", all.told(1), 0);
        due.is("debt 0", all.debt(0, 0), NONE);
    }

    private static void debtsInOrder() {
        due.sentence(0, "in the order in which they became so");
        DebtRings x = Setups.owing(6, 5, 4, 3, 0, 1, 2, 2, 0, 7);
        Setups.debtsAre(due, x, new int[] {5, 4, 3}, new int[] {0, 1, 2}, new int[] {2, 0, 7});
        x.owe(5, 4, 9);
        x.pay(0, 1, 1);
        Setups.debtsAre(due, x, new int[] {5, 4, 12}, new int[] {0, 1, 1}, new int[] {2, 0, 7});
        x.pay(5, 4, 12);
        Setups.debtsAre(due, x, new int[] {0, 1, 1}, new int[] {2, 0, 7});
        x.owe(5, 4, 1);
        Setups.debtsAre(due, x, new int[] {0, 1, 1}, new int[] {2, 0, 7}, new int[] {5, 4, 1});
        x.owe(1, 2, 1);
        due.is("the first is cut, and one behind", x.cut(0, 1), 1);
        Setups.debtsAre(due, x, new int[] {2, 0, 6}, new int[] {5, 4, 1});
        due.is("a text goes on with it", Setups.readAll(x, "o1209;o011;o541"), 3);
        Setups.debtsAre(due, x, new int[] {2, 0, 6}, new int[] {5, 4, 2}, new int[] {1, 2, 9}, new int[] {0, 1, 1});
    }

    private static void consentsAtFirst() {
        due.sentence(0, "A PERSON CONSENTS to each other one (pays that one), or not; at first to all");
        DebtRings x = new DebtRings();
        for (int p = 0; p < 6; p++) {
            x.person();
            for (int other = 0; other < p; other++) {
                due.is("the newest to " + other, x.of(p, other, 1), 1);
                due.is(other + " to the newest", x.of(other, p, 1), 1);
                x.consent(other, p, false);
            }
            due.is("to oneself", x.of(p, p, 1), NONE);
        }
        due.is("not any more", x.of(0, 5, 1), 0);
        due.is("the last still does", x.of(5, 0, 1), 1);
    }

    private static void pairs() {
        due.sentence(0, "i, j (payer, payee) are two PEOPLE: one twice is NONE");
        for (int count = 0; count <= 6; count++) {
            DebtRings x = Setups.people(count);
            for (int i = -2; i <= 7; i++) {
                for (int j = -2; j <= 7; j++) {
                    boolean isPair = i >= 0 && j >= 0 && i < count && j < count && i != j;
                    due.is(count + " people, of " + i + " " + j, x.of(i, j, 0), isPair ? 0 : NONE);
                }
            }
        }
        due.only("i", 0, 2, NONE, i -> Setups.people(4).owe(i, 3, 1));
        due.only("j", 1, 3, NONE, j -> Setups.people(4).owe(0, j, 1));
        due.only("i", 0, 2, NONE, i -> Setups.people(4).pay(i, 3, 1));
        due.only("j", 1, 3, NONE, j -> Setups.people(4).pay(0, j, 1));
        due.only("i", 0, 2, NONE, i -> Setups.people(4).consent(i, 3, true));
        due.only("j", 1, 3, NONE, j -> Setups.people(4).consent(0, j, true));
        due.only("i", 0, 2, NONE, i -> Setups.people(4).of(i, 3, 1));
        due.only("j", 1, 3, NONE, j -> Setups.people(4).of(0, j, 2));
        due.only("i", 0, 2, NONE, i -> Setups.people(4).fits(i, 3, 0));
        due.only("j", 1, 3, NONE, j -> Setups.people(4).fits(0, j, 1));
        due.only("i", 0, 2, NO, i -> Setups.people(4).odds(i, 3, 0));
        due.only("j", 1, 3, NO, j -> Setups.people(4).odds(0, j, 1));
        due.only("i, but -1", -1, 2, NONE, i -> Setups.people(4).see(i, 3, 1));
        due.only("j", 1, 3, NONE, j -> Setups.people(4).see(0, j, 1));
        due.only("i, but -1", -1, 2, NONE, i -> Setups.people(4).book(i, 3, 1));
        due.only("j", 1, 3, NONE, j -> Setups.people(4).book(0, j, 1));
    }

    private static void newObject() {
        due.sentence(1, "No PEOPLE");
        due.is("told 0", new DebtRings().told(0), 0);
        due.is("balance 0", new DebtRings().balance(0), NO);
        due.is("without 0", new DebtRings().without(0), NONE);
        due.is("of 0 1", new DebtRings().of(0, 1, 0), NONE);
        due.is("the first that comes", new DebtRings().person(), 0);
    }

    private static void personIsFull() {
        due.sentence(2, "A PERSON comes: the number. FULL: 6");
        for (int count = 0; count <= 6; count++) {
            DebtRings x = Setups.people(count);
            due.is("person() with " + count, x.person(), count < 6 ? count : FULL);
            due.is("told 0", x.told(0), count < 6 ? count + 1 : 6);
        }
    }

    private static void oweAmounts() {
        due.sentence(3, "BAD: n (1 .. 99)");
        due.only("owe", 1, 99, BAD, n -> Setups.people(2).owe(0, 1, n));
        due.is("owe 1", Setups.people(2).owe(0, 1, 1), 1);
        due.is("owe 99", Setups.people(2).owe(0, 1, 99), 99);
    }

    private static void oweIsFull() {
        due.sentence(3, "FULL: it would be above 999");
        for (int n : new int[] {1, 50, 98, 99}) {
            DebtRings below = Setups.owing(2, 0, 1, 999 - n);
            due.is("up to 999 by " + n, below.owe(0, 1, n), 999);
            DebtRings above = Setups.owing(2, 0, 1, 1000 - n);
            due.is("up to 1000 by " + n, above.owe(0, 1, n), FULL);
            due.is("it is as it was", above.of(0, 1, 0), 1000 - n);
            due.is("one less will do", n == 1 ? 999 : above.owe(0, 1, n - 1), 999);
        }
        DebtRings x = Setups.owing(2, 0, 1, 999);
        due.is("another debt is not full", x.owe(1, 0, 99), 99);
    }

    private static void payAmounts() {
        due.sentence(4, "BAD: n (1 .. 99)");
        due.only("pay", 1, 99, BAD, n -> Setups.owing(2, 0, 1, 99).pay(0, 1, n));
        due.is("pay 1", Setups.owing(2, 0, 1, 99).pay(0, 1, 1), 98);
        due.is("pay 99", Setups.owing(2, 0, 1, 99).pay(0, 1, 99), 0);
    }

    private static void payTooMuch() {
        due.sentence(4, "STATE: i doesn't OWE so much");
        for (int owed : new int[] {1, 2, 50, 98}) {
            DebtRings x = Setups.owing(2, 0, 1, owed);
            due.is("one too much", x.pay(0, 1, owed + 1), STATE);
            due.is("it is as it was", x.of(0, 1, 0), owed);
            due.is("all of it", x.pay(0, 1, owed), 0);
        }
        due.is("nothing is owed", Setups.people(2).pay(0, 1, 1), STATE);
        due.is("what j owes i does not matter", Setups.owing(2, 1, 0, 50).pay(0, 1, 1), STATE);
    }

    private static void consentWas() {
        due.sentence(5, "PERSON i CONSENTS to j, or not: what it was (1, 0)");
        DebtRings x = Setups.people(6);
        due.is("at first", x.consent(5, 0, true), 1);
        due.is("as it is", x.consent(5, 0, true), 1);
        due.is("no more", x.consent(5, 0, false), 1);
        due.is("still not", x.consent(5, 0, false), 0);
        due.is("again", x.consent(5, 0, true), 0);
        due.is("as it is", x.consent(5, 0, true), 1);
        due.is("the other way", x.consent(0, 5, false), 1);
        due.is("it is not the other way", x.of(5, 0, 1), 1);
    }

    private static void ofWhat() {
        due.sentence(6, "2 its number among DEBTS (-5: none)");
        due.only("of", 0, 2, NONE, what -> Setups.owing(2, 0, 1, 3).of(0, 1, what));
        due.only("of nothing", 0, 2, NONE, what -> Setups.people(2).of(0, 1, what));
        DebtRings x = Setups.owing(3, 0, 1, 3, 1, 2, 4);
        due.is("the first", x.of(0, 1, 2), 0);
        due.is("the last", x.of(1, 2, 2), 1);
        due.is("none", x.of(1, 0, 2), -5);
        due.is("the 30th", Setups.allOwing(1).of(5, 4, 2), 29);
    }

    private static void debtNumbers() {
        due.sentence(7, "NONE: k, what");
        due.only("k", 0, 1, NONE, k -> Setups.owing(3, 0, 1, 3, 1, 2, 4).debt(k, 2));
        due.only("what", 0, 2, NONE, what -> Setups.owing(3, 0, 1, 3, 1, 2, 4).debt(1, what));
        due.only("k of all", 0, 29, NONE, k -> Setups.allOwing(1).debt(k, 0));
        for (int k = -1; k <= 1; k++) {
            due.is("there is none", Setups.people(6).debt(k, 0), NONE);
        }
    }

    private static void constants() {
        due.sentence(0, "NONE (-1) no such number; BAD (-2) a number is not as told; STATE (-3) as told; FULL (-4)");
        due.is("NONE", DebtRings.NONE, -1);
        due.is("BAD", DebtRings.BAD, -2);
        due.is("STATE", DebtRings.STATE, -3);
        due.is("FULL", DebtRings.FULL, -4);
        due.is("NO", DebtRings.NO, Long.MIN_VALUE);
    }
}
