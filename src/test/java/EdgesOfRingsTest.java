/** Sentence by sentence, what the document says of edges of rings, cuts and the trail: promises 10 to 13. */
public final class EdgesOfRingsTest {
    private static final int NONE = -1, BAD = -2;
    private static final Due due = new Due("EdgesOfRingsTest");

    public static void main(String[] args) {
        twoPeopleOrMore();
        noneTwice();
        theLastOwesTheFirst();
        toldFromTheLeast();
        least();
        fewestFirst();
        byPeopleOneByOne();
        ruleFirst();
        ruleHigh();
        ruleDeep();
        ruleAgreed();
        ofSeveralTheFirst();
        leastFromEach();
        noCutWithoutRing();
        trailAsTheyCame();
        trailOfForty();
        cutNumbers();
        cutTillThereIsNone();
        ringWhateverTheTrail();
        ringNumbers();
        ringThereIsNone();
        trailNumbers();
        forgetMakesRoom();
        due.end();
    }

    private static void twoPeopleOrMore() {
        due.sentence(0, "A RING: two PEOPLE or more");
        DebtRings x = Setups.owing(2, 0, 1, 5);
        due.is("one debt is none", x.told(2), 0);
        x.owe(1, 0, 5);
        due.is("two people are one", x.told(2), 1);
        Setups.ringIs(due, x, 0, 5, 0, 1);
        DebtRings six = Setups.owing(6, 0, 5, 1, 5, 1, 2, 1, 4, 3, 4, 2, 4, 2, 3, 5, 3, 0, 6);
        due.is("six people are one", six.told(2), 1);
        for (int rule = 0; rule <= 3; rule++) {
            Setups.ringIs(due, six, rule, 1, 0, 5, 1, 4, 2, 3);
        }
        due.is("nobody", new DebtRings().told(2), 0);
        due.is("one alone", Setups.people(1).told(2), 0);
        due.is("all that can be", Setups.allOwing(1).told(2), 409);
    }

    private static void noneTwice() {
        due.sentence(0, "none twice");
        DebtRings x = Setups.owing(3, 0, 1, 5, 1, 0, 5, 0, 2, 5, 2, 0, 5);
        due.is("0 1 0 2 is none", x.told(2), 2);
        Setups.ringIs(due, x, 2, 5, 0, 1);
        DebtRings bow = Setups.owing(5, 0, 1, 5, 1, 2, 5, 2, 0, 5, 2, 3, 5, 3, 4, 5, 4, 2, 5);
        due.is("two of three are not one of six", bow.told(2), 2);
        Setups.ringIs(due, bow, 2, 5, 0, 1, 2);
    }

    private static void theLastOwesTheFirst() {
        due.sentence(0, "each of whom OWES the next one something, the last one the first");
        DebtRings x = Setups.owing(6, 0, 1, 5, 1, 2, 5, 2, 3, 5, 3, 4, 5, 4, 5, 5);
        due.is("a chain is none", x.told(2), 0);
        x.owe(5, 0, 1);
        due.is("its end makes it one", x.told(2), 1);
        x.pay(5, 0, 1);
        due.is("nothing at its end", x.told(2), 0);
        x.owe(0, 5, 1);
        due.is("the other way is none", x.told(2), 0);
    }

    private static void toldFromTheLeast() {
        due.sentence(0, "it is told from its least PERSON on");
        Setups.ringIs(due, Setups.owing(6, 5, 3, 2, 3, 4, 2, 4, 5, 2), 0, 2, 3, 4, 5);
        Setups.ringIs(due, Setups.owing(6, 5, 4, 2, 4, 3, 2, 3, 5, 2), 0, 2, 3, 5, 4);
        Setups.ringIs(due, Setups.owing(6, 5, 4, 2, 4, 5, 3), 0, 2, 4, 5);
    }

    private static void least() {
        due.sentence(0, "LEAST: the least of these DEBTS");
        Setups.ringIs(due, Setups.owing(3, 0, 1, 1, 1, 2, 9, 2, 0, 9), 0, 1, 0, 1, 2);
        Setups.ringIs(due, Setups.owing(3, 0, 1, 9, 1, 2, 1, 2, 0, 9), 0, 1, 0, 1, 2);
        Setups.ringIs(due, Setups.owing(3, 0, 1, 9, 1, 2, 9, 2, 0, 1), 0, 1, 0, 1, 2);
        Setups.ringIs(due, Setups.owing(2, 0, 1, 999, 1, 0, 999), 1, 999, 0, 1);
        DebtRings all = Setups.allOwing(999);
        due.is("of six with all that can be", all.ring(2, -2), 999);
        due.is("of six", all.ring(2, -1), 6);
    }

    private static void fewestFirst() {
        due.sentence(0, "RINGS are in order by how many PEOPLE, fewest first");
        DebtRings x = Setups.owing(6, 0, 1, 4, 1, 2, 4, 2, 3, 4, 3, 4, 4, 4, 5, 4, 5, 0, 4);
        int[][] shorter = {{4, 0}, {3, 0}, {2, 0}};
        for (int k = 0; k < 3; k++) {
            due.is("how many of them", x.ring(0, -1), 6 - k);
            x.owe(shorter[k][0], shorter[k][1], 4);
        }
        Setups.ringIs(due, x, 0, 4, 0, 1, 2);
        x.owe(5, 4, 4);
        Setups.ringIs(due, x, 0, 4, 4, 5);
        Setups.ringIs(due, x, 1, 4, 4, 5);
        Setups.ringIs(due, x, 3, 4, 4, 5);
    }

    private static void byPeopleOneByOne() {
        due.sentence(0, "of several by the first PERSON, the least first, of several of these by the second one, "
            + "and so on");
        Setups.ringIs(due, Setups.owing(6, 1, 2, 9, 2, 1, 9, 0, 5, 9, 5, 0, 9), 0, 9, 0, 5);
        Setups.ringIs(due, Setups.owing(6, 0, 3, 9, 3, 0, 9, 0, 2, 9, 2, 0, 9), 0, 9, 0, 2);
        Setups.ringIs(due, Setups.owing(6, 0, 2, 9, 2, 4, 9, 4, 0, 9, 0, 1, 9, 1, 5, 9, 5, 0, 9), 0, 9, 0, 1, 5);
        Setups.ringIs(due, Setups.owing(5, 0, 1, 9, 1, 3, 9, 3, 0, 9, 1, 2, 9, 2, 0, 9), 0, 9, 0, 1, 2);
        Setups.ringIs(due, Setups.owing(6, 0, 1, 9, 1, 2, 9, 2, 4, 9, 4, 0, 9, 2, 3, 9, 3, 0, 9), 0, 9, 0, 1, 2, 3);
        Setups.ringIs(due, Setups.owing(6, 0, 1, 9, 1, 2, 9, 2, 3, 9, 3, 5, 9, 5, 0, 9, 3, 4, 9, 4, 0, 9),
            0, 9, 0, 1, 2, 3, 4);
        Setups.ringIs(due, Setups.owing(6, 0, 1, 9, 1, 2, 9, 2, 3, 9, 3, 5, 9, 5, 4, 9, 4, 0, 9,
            3, 4, 9, 4, 5, 9, 5, 0, 9), 2, 9, 0, 1, 2, 3, 4, 5);
    }

    private static void ruleFirst() {
        due.sentence(0, "0 FIRST: the first");
        DebtRings x = Setups.owing(5, 0, 1, 1, 1, 0, 1, 2, 3, 900, 3, 4, 900, 4, 2, 900);
        Setups.ringIs(due, x, 0, 1, 0, 1);
        x.consent(0, 1, false);
        Setups.ringIs(due, x, 0, 1, 0, 1);
    }

    private static void ruleHigh() {
        due.sentence(0, "1 HIGH: that with the greatest LEAST");
        Setups.ringIs(due, Setups.owing(4, 0, 1, 8, 1, 0, 8, 2, 3, 9, 3, 2, 9), 1, 9, 2, 3);
        Setups.ringIs(due, Setups.owing(4, 0, 1, 9, 1, 0, 9, 2, 3, 9, 3, 2, 9), 1, 9, 0, 1);
        Setups.ringIs(due, Setups.owing(4, 0, 1, 99, 1, 0, 8, 2, 3, 9, 3, 2, 9), 1, 9, 2, 3);
        Setups.ringIs(due, Setups.owing(5, 0, 1, 5, 1, 2, 5, 2, 0, 5, 3, 4, 6, 4, 3, 6), 1, 6, 3, 4);
    }

    private static void ruleDeep() {
        due.sentence(0, "2 DEEP: that with the greatest product of LEAST and how many PEOPLE");
        Setups.ringIs(due, Setups.owing(5, 0, 1, 8, 1, 0, 8, 2, 3, 6, 3, 4, 6, 4, 2, 6), 2, 6, 2, 3, 4);
        Setups.ringIs(due, Setups.owing(5, 0, 1, 10, 1, 0, 10, 2, 3, 6, 3, 4, 6, 4, 2, 6), 2, 10, 0, 1);
        Setups.ringIs(due, Setups.owing(6, 0, 1, 3, 1, 2, 3, 2, 0, 3, 3, 4, 4, 4, 5, 4, 5, 3, 4), 2, 4, 3, 4, 5);
        Setups.ringIs(due, Setups.owing(6, 0, 1, 3, 1, 2, 3, 2, 3, 3, 3, 4, 3, 4, 5, 3, 5, 0, 3, 1, 0, 8),
            2, 3, 0, 1, 2, 3, 4, 5);
    }

    private static void ruleAgreed() {
        due.sentence(0, "3 AGREED: the first by which each CONSENTS to the next one (the last one to the first)");
        int[] rings = {0, 1, 2, 1, 0, 2, 2, 3, 2, 3, 4, 2, 4, 2, 2};
        DebtRings x = Setups.owing(5, rings);
        Setups.ringIs(due, x, 3, 2, 0, 1);
        x.consent(1, 0, false);
        Setups.ringIs(due, x, 3, 2, 2, 3, 4);
        x.consent(4, 2, false);
        due.is("the last must, too", x.ring(3, -1), -5);
        x.consent(1, 0, true);
        Setups.ringIs(due, x, 3, 2, 0, 1);
        DebtRings backwards = Setups.owing(5, rings);
        backwards.consent(3, 2, false);
        backwards.consent(2, 4, false);
        backwards.consent(0, 2, false);
        backwards.consent(0, 1, false);
        Setups.ringIs(due, backwards, 3, 2, 2, 3, 4);
    }

    private static void ofSeveralTheFirst() {
        due.sentence(0, "Of several by 1, 2 the first");
        int[] pairs = {4, 5, 7, 5, 4, 7, 1, 2, 7, 2, 1, 7, 0, 3, 7, 3, 0, 7};
        Setups.ringIs(due, Setups.owing(6, pairs), 1, 7, 0, 3);
        Setups.ringIs(due, Setups.owing(6, pairs), 2, 7, 0, 3);
        DebtRings x = Setups.owing(5, 0, 1, 9, 1, 0, 9, 2, 3, 6, 3, 4, 6, 4, 2, 6);
        Setups.ringIs(due, x, 2, 9, 0, 1);
        due.is("2 of 9 went ahead of 3 of 6", x.cut(2, 1), 1);
        Setups.ringIs(due, x, 2, 6, 2, 3, 4);
    }

    private static void leastFromEach() {
        due.sentence(0, "A CUT by a RULE takes one RING, and LEAST from each of its DEBTS");
        DebtRings x = Setups.owing(4, 2, 0, 999, 0, 1, 5, 3, 0, 7, 1, 2, 6, 1, 3, 8);
        due.is("0 1 2", x.cut(0, 1), 1);
        Setups.debtsAre(due, x, new int[] {2, 0, 994}, new int[] {3, 0, 7}, new int[] {1, 2, 1}, new int[] {1, 3, 8});
        for (int rule = 0; rule <= 3; rule++) {
            DebtRings six = Setups.owing(6, 0, 1, 4, 1, 2, 4, 2, 3, 4, 3, 4, 4, 4, 5, 4, 5, 0, 4);
            due.is("six alike", six.cut(rule, 40), 1);
            Setups.debtsAre(due, six);
            DebtRings pair = Setups.owing(3, 1, 2, 2, 2, 1, 1, 0, 1, 9);
            due.is("two", pair.cut(rule, 40), 1);
            Setups.debtsAre(due, pair, new int[] {1, 2, 1}, new int[] {0, 1, 9});
        }
    }

    private static void trailAsTheyCame() {
        due.sentence(0, "THE TRAIL: all CUTS, as they came: RULE, how many PEOPLE, LEAST");
        DebtRings x = Setups.owing(6, 0, 1, 2, 1, 0, 2, 2, 3, 4, 3, 4, 4, 4, 2, 4, 5, 0, 999);
        x.cut(3, 1);
        x.cut(1, 0);
        x.cut(1, 40);
        Setups.oweAll(x, 0, 5, 999);
        x.cut(2, 40);
        Setups.readAll(x, "o011;o101;c0");
        int[] rows = {3, 2, 2, 1, 3, 4, 2, 2, 999, 0, 2, 1};
        due.is("told 3", x.told(3), 4);
        for (int r = 0; r < rows.length; r++) {
            due.is("trail " + r / 3 + " " + r % 3, x.trail(r / 3, r % 3), rows[r]);
        }
        due.is("trail 4", x.trail(4, 0), NONE);
    }

    private static void noCutWithoutRing() {
        due.sentence(0, "There is no CUT, if there is no such RING");
        DebtRings x = Setups.owing(3, 0, 1, 5, 1, 2, 5);
        for (int rule = 0; rule <= 3; rule++) {
            due.is("cut by " + rule, x.cut(rule, 40), 0);
        }
        due.is("the trail is empty", x.told(3), 0);
        due.is("all is owed still", x.told(4), 10);
        x.owe(1, 0, 5);
        x.consent(0, 1, false);
        due.is("none that is agreed", x.cut(3, 40), 0);
        due.is("the trail is empty", x.told(3), 0);
        due.is("nobody is there", new DebtRings().cut(0, 40), 0);
    }

    private static void trailOfForty() {
        due.sentence(0, "40 at most (then there is no CUT any more)");
        DebtRings x = Setups.trailOf(39);
        for (int p = 2; p < 6; p++) {
            x.person();
        }
        for (int p = 0; p < 6; p += 2) {
            x.owe(p, p + 1, 3);
            x.owe(p + 1, p, 3);
        }
        due.is("the fortieth is the last", x.cut(1, 40), 1);
        due.is("told 3", x.told(3), 40);
        for (int rule = 0; rule <= 3; rule++) {
            due.is("no more by " + rule, x.cut(rule, 1), 0);
        }
        due.is("nor by a text", Setups.readAll(x, "c0;c1"), 0);
        due.is("told 3", x.told(3), 40);
        due.is("two rings stay", x.told(4), 12);
        due.is("the fortieth", x.trail(39, 2), 3);
        due.is("none behind it", x.trail(40, 2), NONE);
    }

    private static void cutNumbers() {
        due.sentence(10, "CUTS by a RULE, n at most (0 .. 40)");
        due.only("rule", 0, 3, BAD, rule -> Setups.people(2).cut(rule, 1));
        due.only("n", 0, 40, BAD, n -> Setups.people(2).cut(0, n));
        int[] rings = {0, 1, 5, 1, 0, 5, 2, 3, 5, 3, 2, 5, 4, 5, 5, 5, 4, 5};
        for (int n = 0; n <= 4; n++) {
            DebtRings x = Setups.owing(6, rings);
            due.is("cut 0 " + n, x.cut(0, n), Math.min(n, 3));
            due.is("told 3", x.told(3), Math.min(n, 3));
            due.is("told 4", x.told(4), 30 - 10 * Math.min(n, 3));
        }
        due.is("rule, n", Setups.owing(6, rings).cut(4, 41), BAD);
    }

    private static void cutTillThereIsNone() {
        due.sentence(10, "till there is none: how many there were");
        DebtRings x = Setups.owing(3, 0, 1, 9, 1, 0, 3, 1, 2, 9, 2, 0, 4);
        due.is("two", x.cut(0, 40), 2);
        due.is("none", x.cut(0, 40), 0);
        Setups.debtsAre(due, x, new int[] {0, 1, 2}, new int[] {1, 2, 5});
        DebtRings all = Setups.allOwing(2);
        due.is("as many as there are pairs", all.cut(0, 40), 15);
        due.is("all are cut", all.told(4), 0);
    }

    private static void ringWhateverTheTrail() {
        due.sentence(11, "Of the RING that a CUT by a RULE would take (whatever THE TRAIL holds)");
        DebtRings x = Setups.trailOf(40);
        x.owe(0, 1, 8);
        x.owe(1, 0, 7);
        due.is("no cut", x.cut(0, 1), 0);
        for (int rule = 0; rule <= 3; rule++) {
            Setups.ringIs(due, x, rule, 7, 0, 1);
        }
    }

    private static void ringNumbers() {
        due.sentence(11, "k -1: how many; k -2: LEAST. BAD: rule");
        int[] ring = {1, 3, 8, 3, 2, 9, 2, 1, 7};
        due.only("rule", 0, 3, BAD, rule -> Setups.owing(4, ring).ring(rule, 0));
        due.only("k", -2, 2, NONE, k -> Setups.owing(4, ring).ring(0, k));
        int[] byK = {7, 3, 1, 3, 2};
        for (int k = -2; k <= 2; k++) {
            due.is("ring 0 " + k, Setups.owing(4, ring).ring(0, k), byK[k + 2]);
        }
    }

    private static void ringThereIsNone() {
        due.sentence(11, "-5: there is none (whatever k is); NONE: k");
        int[] ks = {Integer.MIN_VALUE, -3, -2, -1, 0, 1, 6, Integer.MAX_VALUE};
        for (int rule = 0; rule <= 3; rule++) {
            for (int k : ks) {
                due.is("nobody, " + rule + " " + k, new DebtRings().ring(rule, k), -5);
                due.is("a chain, " + rule + " " + k, Setups.owing(3, 0, 1, 5, 1, 2, 5).ring(rule, k), -5);
            }
        }
        for (int k : ks) {
            DebtRings x = Setups.owing(2, 0, 1, 5, 1, 0, 5);
            x.consent(1, 0, false);
            due.is("none that is agreed, " + k, x.ring(3, k), -5);
            due.is("one that is not, " + k, x.ring(0, k) == -5 ? 1 : 0, 0);
            due.is("no such rule, " + k, x.ring(4, k), BAD);
            due.is("no such rule, nobody, " + k, new DebtRings().ring(-1, k), BAD);
        }
    }

    private static void trailNumbers() {
        due.sentence(12, "NONE: k, what");
        due.only("k", 0, 1, NONE, k -> Setups.trailOf(2).trail(k, 2));
        due.only("what", 0, 2, NONE, what -> Setups.trailOf(2).trail(1, what));
        due.only("k of all", 0, 39, NONE, k -> Setups.trailOf(40).trail(k, 0));
        due.is("nothing yet", Setups.trailOf(0).trail(0, 0), NONE);
        DebtRings x = Setups.owing(5, 0, 1, 1, 1, 0, 9, 2, 3, 9, 3, 4, 8, 4, 2, 7);
        x.cut(2, 1);
        x.cut(3, 1);
        int[] rows = {2, 3, 7, 3, 2, 1};
        for (int r = 0; r < 6; r++) {
            due.is("trail " + r / 3 + " " + r % 3, x.trail(r / 3, r % 3), rows[r]);
        }
    }

    private static void forgetMakesRoom() {
        due.sentence(13, "THE TRAIL is empty then: how many CUTS it had");
        due.is("none", new DebtRings().forget(), 0);
        DebtRings x = Setups.trailOf(40);
        due.is("40", x.forget(), 40);
        due.is("told 3", x.told(3), 0);
        due.is("trail 0", x.trail(0, 0), NONE);
        due.is("none any more", x.forget(), 0);
        x.owe(0, 1, 1);
        x.owe(1, 0, 1);
        due.is("cut again", x.cut(3, 40), 1);
        due.is("the first again", x.trail(0, 0), 3);
    }
}
