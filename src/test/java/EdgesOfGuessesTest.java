/** Sentence by sentence, what the document says of edges of what is told by hand: promises 21 to 28. */
public final class EdgesOfGuessesTest {
    private static final int NONE = -1, BAD = -2, FULL = -4;
    private static final long NO = Long.MIN_VALUE;
    private static final Due due = new Due("EdgesOfGuessesTest");

    public static void main(String[] args) {
        seenRows();
        seenIsEmptied();
        seenNumbers();
        fitting();
        leastFitting();
        fitsNumbers();
        tenAmounts();
        rightBehind();
        oddsNumbers();
        meanOfDebts();
        meanNumbers();
        eventRows();
        eventsAreEmptied();
        eventNumbers();
        owesNobody();
        nobodyOwes();
        cutEvent();
        settledEvent();
        behindAllOfIt();
        afterNumbers();
        bookRows();
        bookIsEmptied();
        bookNumbers();
        looked();
        due.end();
    }

    private static DebtRings rowsSeen(int count) {
        DebtRings x = Setups.people(3);
        for (int k = 0; k < count; k++) {
            x.see(0, 1, k + 1);
        }
        return x;
    }

    private static void seenRows() {
        due.sentence(0, "SEEN told by hand: a payer, a payee, an amount (5 rows at most)");
        for (int count = 0; count <= 5; count++) {
            DebtRings x = rowsSeen(count);
            due.is("count 0", x.count(0), count);
            due.is("one more than " + count, x.see(1, 2, 999), count < 5 ? count + 1 : FULL);
            due.is("count 0", x.count(0), Math.min(count + 1, 5));
        }
        // The fifth row counts, too.
        DebtRings x = Setups.owing(6, 0, 5, 1, 1, 5, 2, 2, 5, 4, 3, 5, 8, 4, 5, 16);
        for (int p = 0; p < 4; p++) {
            x.see(p, 5, 1 << p);
        }
        x.see(4, 5, 7);
        due.is("by 7 alone", x.fits(4, 5, 0), 1);
        due.is("by 7 alone", x.fits(4, 5, 1), 7);
    }

    private static void seenIsEmptied() {
        due.sentence(21, "(i -1: none then, 0, whatever the rest is)");
        int[] wild = {Integer.MIN_VALUE, -1, 0, 1, 5, 6, 999, 1000, Integer.MAX_VALUE};
        for (int j : wild) {
            for (int n : wild) {
                DebtRings x = rowsSeen(5);
                due.is("see -1 " + j + " " + n, x.see(-1, j, n), 0);
                due.is("count 0", x.count(0), 0);
                due.is("nobody, see -1 " + j + " " + n, new DebtRings().see(-1, j, n), 0);
            }
        }
        DebtRings x = Setups.owing(2, 0, 1, 3);
        x.see(1, 0, 5);
        due.is("it does not fit", x.fits(0, 1, 0), 0);
        x.see(-1, 0, 0);
        due.is("nothing seen fits all", x.fits(0, 1, 0), 31);
        due.is("it has room again", x.see(0, 1, 1), 1);
    }

    private static void seenNumbers() {
        due.sentence(21, "NONE: i, j; BAD: n (1 .. 999); FULL: 5");
        due.only("i, but -1", -1, 2, NONE, i -> Setups.people(4).see(i, 3, 1));
        due.only("j", 1, 3, NONE, j -> Setups.people(4).see(0, j, 1));
        due.only("n", 1, 999, BAD, n -> Setups.people(4).see(0, 3, n));
        due.is("one twice", rowsSeen(0).see(1, 1, 1), NONE);
        due.is("NONE ahead of BAD", rowsSeen(0).see(3, 0, 0), NONE);
        due.is("NONE ahead of FULL", rowsSeen(5).see(0, 3, 1), NONE);
        due.is("BAD ahead of FULL", rowsSeen(5).see(0, 1, 1000), BAD);
        due.is("NONE ahead of all", rowsSeen(5).see(-2, 1, 1000), NONE);
        due.is("what owes nothing can be seen", rowsSeen(4).see(2, 1, 999), 5);
    }

    private static void fitting() {
        due.sentence(0, "FITS of i and j: how many amounts 0 .. 30 there are by which, were that what i OWES j, all of "
            + "SEEN were among PAYMENTS");
        int[] owed = {0, 1, 30, 31, 999};
        for (int now : owed) {
            for (int seen : new int[] {1, 2, 29, 30, 31, 999}) {
                DebtRings x = Setups.owing(2, 0, 1, now);
                due.is("nothing seen", x.fits(0, 1, 0), 31);
                due.is("nothing seen, least", x.fits(0, 1, 1), 0);
                x.see(0, 1, seen);
                due.is(now + ", seen " + seen, x.fits(0, 1, 0), seen <= 30 ? 1 : 0);
                due.is(now + ", seen " + seen + ", least", x.fits(0, 1, 1), seen <= 30 ? seen : -5);
                due.is("it is as it was", x.of(0, 1, 0), now);
            }
        }
        // 1 owes 0 40: what 0 owes 1 turns who pays only above 40.
        DebtRings x = Setups.owing(2, 1, 0, 40);
        x.see(1, 0, 40);
        due.is("by 0 alone", x.fits(0, 1, 1), 0);
        x.see(-1, 0, 0);
        x.see(1, 0, 10);
        due.is("by 30", x.fits(0, 1, 1), 30);
        x.see(-1, 0, 0);
        x.see(1, 0, 9);
        due.is("31 is too much", x.fits(0, 1, 1), -5);
        DebtRings both = Setups.owing(4, 0, 1, 5);
        both.see(0, 1, 5);
        both.see(2, 3, 6);
        due.is("all must be", both.fits(2, 3, 0), 1);
        both.see(2, 3, 7);
        due.is("none by which all are", both.fits(2, 3, 0), 0);
    }

    private static void leastFitting() {
        due.sentence(0, "the least (-5: none)");
        DebtRings x = Setups.owing(4, 0, 1, 8);
        due.is("0", x.fits(2, 3, 1), 0);
        x.see(0, 1, 8);
        due.is("0 still", x.fits(2, 3, 1), 0);
        due.is("31 of them", x.fits(2, 3, 0), 31);
        // 1 owes 0 n: 0 pays 1 what is left of 8.
        due.is("0 alone", x.fits(1, 0, 0), 1);
        due.is("0 alone", x.fits(1, 0, 1), 0);
        // 2 owes 1 n, 0 owes 1 8: {0, 1, 2}, both pay, but 0 pays 8.
        due.is("whatever 2 pays", x.fits(2, 1, 0), 31);
        x.see(2, 1, 3);
        due.is("3", x.fits(2, 1, 1), 3);
        due.is("how many", x.fits(2, 1, 0), 1);
        x.see(3, 1, 1);
        due.is("none", x.fits(2, 1, 1), -5);
        due.is("how many: 0", x.fits(2, 1, 0), 0);
    }

    private static void fitsNumbers() {
        due.sentence(22, "NONE: i, j, what");
        due.only("i", 0, 2, NONE, i -> Setups.people(4).fits(i, 3, 0));
        due.only("j", 1, 3, NONE, j -> Setups.people(4).fits(0, j, 0));
        due.only("what", 0, 1, NONE, what -> Setups.people(4).fits(0, 3, what));
        due.is("one twice", Setups.people(6).fits(5, 5, 0), NONE);
    }

    private static void oddsAre(DebtRings x, int i, int j, int above, int below) {
        due.is("odds " + i + " " + j + " above", x.odds(i, j, 0), above);
        due.is("odds " + i + " " + j + " below", x.odds(i, j, 1), below);
    }

    private static void tenAmounts() {
        due.sentence(0, "ODDS of i and j: were what i OWES j 0, 1, .. 9, each alike likely");
        // Of the ring 2 3 so many more are asked than of 0 1, that stands ahead of it.
        int[][] behind = {{1, 4, 5}, {2, 7, 10}, {3, 3, 5}, {4, 1, 2}, {5, 2, 5}, {6, 3, 10}, {7, 1, 5}, {8, 1, 10},
            {9, 0, 1}, {10, 0, 1}};
        for (int[] row : behind) {
            oddsAre(Setups.owing(4, 0, 1, row[0], 1, 0, 50, 3, 2, 50), 2, 3, row[1], row[2]);
            // Of 0 1 as many will do.
            int will = 10 - row[0];
            int[] lowest = {0, 0, 1, 10, 1, 5, 3, 10, 2, 5, 1, 2, 3, 5, 7, 10, 4, 5, 9, 10};
            oddsAre(Setups.owing(4, 2, 3, row[0], 3, 2, 50, 1, 0, 50), 0, 1, lowest[2 * will],
                will == 0 ? 1 : lowest[2 * will + 1]);
        }
        for (int now : new int[] {0, 1, 9, 10, 999}) {
            oddsAre(Setups.owing(2, 0, 1, now, 1, 0, 1), 0, 1, 9, 10);
        }
        oddsAre(Setups.owing(3, 0, 1, 50), 0, 1, 0, 1);
        oddsAre(Setups.people(6), 5, 0, 0, 1);
    }

    private static void rightBehind() {
        due.sentence(0, "how likely the RING that a CUT by HIGH takes has j right behind i (or i last and j first): "
            + "a fraction in lowest terms");
        int[] six = {0, 5, 20, 5, 1, 20, 1, 4, 20, 4, 2, 20, 2, 3, 20, 3, 0, 20};
        for (int k = 0; k < six.length; k += 3) {
            oddsAre(Setups.owing(6, six), six[k], six[k + 1], 9, 10);
        }
        // 0 1 2 with 20 each: what else is owed from 1 .. 9 on never is in the one with most.
        DebtRings x = Setups.owing(4, 0, 1, 20, 1, 2, 20, 2, 0, 20);
        oddsAre(x, 0, 2, 0, 1);
        oddsAre(x, 1, 0, 0, 1);
        oddsAre(x, 2, 0, 9, 10);
        oddsAre(x, 3, 0, 0, 1);
        // In a ring of two each is behind the other one.
        oddsAre(Setups.owing(2, 0, 1, 5), 1, 0, 9, 10);
        oddsAre(Setups.owing(2, 1, 0, 5), 0, 1, 9, 10);
    }

    private static void oddsNumbers() {
        due.sentence(23, "ODDS; part 0 above, 1 below the line. NO: i, j, part");
        due.only("i", 0, 2, NO, i -> Setups.people(4).odds(i, 3, 0));
        due.only("j", 1, 3, NO, j -> Setups.people(4).odds(0, j, 0));
        due.only("part", 0, 1, NO, part -> Setups.people(4).odds(0, 3, part));
        due.is("one twice", Setups.people(6).odds(5, 5, 0), NO);
        due.is("nobody is there", new DebtRings().odds(0, 1, 0), NO);
    }

    private static void meanOfDebts() {
        due.sentence(0, "MEAN: TOTAL by how many DEBTS there are: a fraction in lowest terms (NO: none)");
        meanIs(Setups.owing(2, 0, 1, 1), 1, 1);
        meanIs(Setups.owing(2, 0, 1, 999), 999, 1);
        meanIs(Setups.owing(2, 0, 1, 1, 1, 0, 2), 3, 2);
        meanIs(Setups.owing(2, 0, 1, 1, 1, 0, 3), 2, 1);
        meanIs(Setups.owing(3, 0, 1, 1, 1, 0, 2, 0, 2, 2, 2, 0, 1), 3, 2);
        meanIs(Setups.owing(3, 0, 1, 1, 1, 0, 1, 0, 2, 2, 2, 0, 1), 5, 4);
        meanIs(Setups.allOwing(999), 999, 1);
        DebtRings all = Setups.allOwing(1);
        all.owe(0, 1, 1);
        meanIs(all, 31, 30);
        all.owe(0, 1, 4);
        meanIs(all, 7, 6);
        all.owe(0, 1, 10);
        meanIs(all, 3, 2);
        due.is("none, above", Setups.people(6).mean(0), NO);
        due.is("none, below", Setups.people(6).mean(1), NO);
        DebtRings paid = Setups.owing(2, 0, 1, 5);
        paid.pay(0, 1, 5);
        due.is("none any more", paid.mean(0), NO);
        due.is("nobody is there", new DebtRings().mean(1), NO);
    }

    private static void meanIs(DebtRings x, int above, int below) {
        due.is("mean, above", x.mean(0), above);
        due.is("mean, below", x.mean(1), below);
    }

    private static void meanNumbers() {
        due.sentence(24, "MEAN; part likewise. NO");
        due.only("part", 0, 1, NO, part -> Setups.owing(2, 0, 1, 5).mean(part));
        due.is("none, and no such part", Setups.people(2).mean(2), NO);
    }

    private static DebtRings rowsOfEvents(int count) {
        DebtRings x = Setups.owing(3, 0, 1, 5);
        for (int k = 0; k < count; k++) {
            x.event(0, 2);
        }
        return x;
    }

    private static void eventRows() {
        due.sentence(0, "8 rows at most): AFTER");
        for (int what = 0; what <= 3; what++) {
            for (int count = 0; count <= 8; count++) {
                DebtRings x = rowsOfEvents(count);
                due.is("one more than " + count, x.event(what, 0), count < 8 ? count + 1 : FULL);
                due.is("count 1", x.count(1), Math.min(count + 1, 8));
            }
        }
        DebtRings x = rowsOfEvents(7);
        due.is("seven that do not matter", x.after(0), 5);
        x.event(0, 0);
        due.is("the eighth does", x.after(0), 0);
        due.is("a ninth", x.event(0, 2), FULL);
        due.is("it did not come", x.after(0), 0);
    }

    private static void eventsAreEmptied() {
        due.sentence(25, "(what -1: none then, 0, whatever the rest is)");
        for (int n : new int[] {Integer.MIN_VALUE, -1, 0, 3, 4, 6, Integer.MAX_VALUE}) {
            DebtRings x = rowsOfEvents(7);
            x.event(1, 1);
            due.is("event -1 " + n, x.event(-1, n), 0);
            due.is("count 1", x.count(1), 0);
            due.is("nothing happens", x.after(0), 5);
            due.is("it has room again", x.event(1, 1), 1);
            due.is("nobody, event -1 " + n, new DebtRings().event(-1, n), 0);
        }
    }

    private static void eventNumbers() {
        due.sentence(25, "NONE: what (0 .. 3), PERSON n; BAD: RULE n; FULL: 8");
        due.only("what, but -1", -1, 3, NONE, what -> Setups.people(6).event(what, 0));
        for (int count = 1; count <= 6; count++) {
            int people = count;
            due.only("PERSON by 0", 0, people - 1, NONE, n -> Setups.people(people).event(0, n));
            due.only("PERSON by 1", 0, people - 1, NONE, n -> Setups.people(people).event(1, n));
        }
        due.only("RULE", 0, 3, BAD, n -> Setups.people(6).event(2, n));
        due.only("RULE, nobody", 0, 3, BAD, n -> new DebtRings().event(2, n));
        due.only("no n by 3", Integer.MIN_VALUE, Integer.MAX_VALUE, NONE, n -> new DebtRings().event(3, n));
        due.is("nobody by 0", new DebtRings().event(0, 0), NONE);
        due.is("nobody by 1", new DebtRings().event(1, 0), NONE);
        due.is("NONE ahead of FULL", rowsOfEvents(8).event(4, 0), NONE);
        due.is("NONE ahead of FULL", rowsOfEvents(8).event(0, 3), NONE);
        due.is("NONE ahead of FULL", rowsOfEvents(8).event(1, -1), NONE);
        due.is("BAD ahead of FULL", rowsOfEvents(8).event(2, 4), BAD);
        due.is("FULL, whatever n is", rowsOfEvents(8).event(3, -99), FULL);
    }

    private static void afterIs(DebtRings x, int total, int debts, int fewest) {
        due.is("after 0", x.after(0), total);
        due.is("after 1", x.after(1), debts);
        due.is("after 2", x.after(2), fewest);
    }

    private static void owesNobody() {
        due.sentence(0, "0 PERSON n OWES nobody anything any more");
        for (int p = 0; p < 6; p++) {
            DebtRings all = Setups.allOwing(2);
            all.event(0, p);
            afterIs(all, 50, 25, 5);
        }
        DebtRings x = Setups.owing(3, 0, 1, 5);
        x.event(0, 1);
        x.event(0, 2);
        afterIs(x, 5, 1, 1);
    }

    private static void nobodyOwes() {
        due.sentence(0, "1 nobody OWES PERSON n");
        for (int p = 0; p < 6; p++) {
            DebtRings all = Setups.allOwing(2);
            all.event(1, p);
            afterIs(all, 50, 25, 5);
        }
        DebtRings x = Setups.owing(3, 0, 1, 5);
        x.event(1, 0);
        x.event(1, 2);
        afterIs(x, 5, 1, 1);
        x.event(1, 1);
        afterIs(x, 0, 0, 0);
    }

    private static void cutEvent() {
        due.sentence(0, "2 a CUT by RULE n, if there is one (THE TRAIL doesn't matter)");
        for (int rule = 0; rule <= 3; rule++) {
            DebtRings none = Setups.owing(3, 0, 1, 5, 1, 2, 5);
            none.event(2, rule);
            afterIs(none, 10, 2, 1);
            DebtRings full = Setups.trailOf(40);
            full.owe(0, 1, 5);
            full.owe(1, 0, 7);
            full.event(2, rule);
            afterIs(full, 2, 1, 1);
            due.is("THE TRAIL is as it was", full.told(3), 40);
        }
        // By FIRST 2 of 1, by HIGH 3 of 5, by DEEP 4 of 5, by AGREED 3 of 5.
        int[] left = {42, 29, 24, 29};
        for (int rule = 0; rule <= 3; rule++) {
            DebtRings x = Setups.owing(6, 0, 1, 1, 1, 0, 1, 2, 3, 5, 3, 4, 9, 4, 2, 5, 4, 5, 10, 5, 2, 13);
            x.consent(1, 0, false);
            x.event(2, rule);
            due.is("after 0 by " + rule, x.after(0), left[rule]);
        }
    }

    private static void settledEvent() {
        due.sentence(0, "3 (n does not matter) DEBTS are PAYMENTS, unless one of these is above 999");
        DebtRings x = Setups.owing(4, 0, 1, 5, 1, 2, 5, 2, 3, 5);
        x.event(3, 99);
        afterIs(x, 5, 1, 1);
        due.is("DEBTS are as they were", x.told(1), 3);
        DebtRings at = Setups.owing(3, 0, 1, 998, 0, 2, 1, 2, 1, 1);
        at.event(3, 0);
        afterIs(at, 999, 1, 1);
        DebtRings above = Setups.owing(3, 0, 1, 999, 0, 2, 1, 2, 1, 1);
        above.event(3, 0);
        afterIs(above, 1001, 3, 1);
        above.event(0, 2);
        above.event(3, 0);
        afterIs(above, 1000, 2, 2);
        above.event(1, 1);
        afterIs(above, 1, 1, 1);
    }

    private static void behindAllOfIt() {
        due.sentence(0, "AFTER, behind all of it: TOTAL; how many DEBTS there are; FEWEST");
        afterIs(new DebtRings(), 0, 0, 0);
        afterIs(Setups.people(6), 0, 0, 0);
        afterIs(Setups.allOwing(999), 29970, 30, 0);
        // What 0 pays 2 is a debt of theirs only behind 3.
        DebtRings x = Setups.owing(3, 0, 1, 5, 1, 2, 5);
        x.event(1, 2);
        x.event(3, 0);
        afterIs(x, 5, 1, 1);
        x.event(-1, 0);
        x.event(3, 0);
        x.event(1, 2);
        afterIs(x, 0, 0, 0);
        x.event(-1, 0);
        afterIs(x, 10, 2, 1);
        DebtRings again = Setups.owing(2, 0, 1, 5);
        again.event(0, 0);
        again.owe(0, 1, 3);
        again.owe(1, 0, 4);
        afterIs(again, 4, 1, 1);
    }

    private static void afterNumbers() {
        due.sentence(26, "AFTER: what 0 TOTAL, 1 DEBTS, 2 FEWEST. NONE");
        due.only("what", 0, 2, NONE, what -> new DebtRings().after(what));
        due.only("what", 0, 2, NONE, what -> rowsOfEvents(8).after(what));
    }

    private static DebtRings rowsBooked(int count) {
        DebtRings x = Setups.owing(3, 0, 1, 5);
        for (int k = 0; k < count; k++) {
            x.book(0, 1, 5);
        }
        return x;
    }

    private static void bookRows() {
        due.sentence(0, "A BOOK told by hand: payers, payees, amounts (8 rows at most)");
        for (int count = 0; count <= 8; count++) {
            DebtRings x = rowsBooked(count);
            due.is("one more than " + count, x.book(1, 2, 999), count < 8 ? count + 1 : FULL);
            due.is("count 2", x.count(2), Math.min(count + 1, 8));
            due.is("looked at", x.looked(), count < 8 ? count : -5);
        }
    }

    private static void bookIsEmptied() {
        due.sentence(27, "(i -1: it is empty then, 0, whatever the rest is)");
        int[] wild = {Integer.MIN_VALUE, -1, 0, 1, 5, 6, 999, 1000, Integer.MAX_VALUE};
        for (int j : wild) {
            for (int n : wild) {
                DebtRings x = rowsBooked(7);
                x.book(1, 0, 5);
                due.is("book -1 " + j + " " + n, x.book(-1, j, n), 0);
                due.is("count 2", x.count(2), 0);
                due.is("looked at", x.looked(), -5);
                due.is("it has room again", x.book(0, 1, 4), 1);
                due.is("looked at", x.looked(), 0);
                due.is("nobody, book -1 " + j + " " + n, new DebtRings().book(-1, j, n), 0);
            }
        }
    }

    private static void bookNumbers() {
        due.sentence(27, "NONE: i, j; BAD: n (1 .. 999); FULL: 8");
        due.only("i, but -1", -1, 2, NONE, i -> Setups.people(4).book(i, 3, 1));
        due.only("j", 1, 3, NONE, j -> Setups.people(4).book(0, j, 1));
        due.only("n", 1, 999, BAD, n -> Setups.people(4).book(0, 3, n));
        due.is("one twice", rowsBooked(0).book(1, 1, 1), NONE);
        due.is("NONE ahead of BAD", rowsBooked(0).book(3, 0, 0), NONE);
        due.is("NONE ahead of FULL", rowsBooked(8).book(0, 3, 1), NONE);
        due.is("BAD ahead of FULL", rowsBooked(8).book(0, 1, 1000), BAD);
        due.is("NONE ahead of all", rowsBooked(8).book(-2, 1, 1000), NONE);
    }

    private static void looked() {
        due.sentence(28, "LOOKED at; -5");
        due.is("nobody, nothing told", new DebtRings().looked(), -5);
        due.is("no payments, nothing told", Setups.people(6).looked(), -5);
        due.is("payments, nothing told", Setups.owing(2, 0, 1, 5).looked(), -5);
        DebtRings none = Setups.people(2);
        none.book(0, 1, 5);
        due.is("no payments, one told", none.looked(), 0);
        due.sentence(0, "LOOKED at: the number (from 0) of the first of these rows that isn't among PAYMENTS "
            + "(-5: none)");
        for (int wrong = 0; wrong < 8; wrong++) {
            DebtRings x = Setups.owing(4, 0, 1, 5, 2, 3, 999);
            for (int k = 0; k < 8; k++) {
                x.book(k % 2 * 2, k % 2 * 2 + 1, k == wrong ? 7 : k % 2 == 0 ? 5 : 999);
            }
            due.is("the one that is wrong", x.looked(), wrong);
        }
        DebtRings x = Setups.owing(4, 0, 1, 5, 2, 3, 999);
        x.book(2, 3, 999);
        due.is("not all of them need be told", x.looked(), -5);
        x.book(3, 2, 999);
        due.is("the other way is none", x.looked(), 1);
        x.book(-1, 0, 0);
        x.book(0, 3, 5);
        due.is("another payee", x.looked(), 0);
        x.book(-1, 0, 0);
        x.book(0, 1, 4);
        due.is("one less", x.looked(), 0);
        x.book(-1, 0, 0);
        x.book(0, 1, 6);
        due.is("one more", x.looked(), 0);
        x.owe(0, 1, 1);
        due.is("as it is by now", x.looked(), -5);
    }
}
