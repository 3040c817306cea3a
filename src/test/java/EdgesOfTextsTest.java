/** Sentence by sentence, what the document says of edges of the text and of set-ups: promises 8 and 9. */
public final class EdgesOfTextsTest {
    private static final int BAD = -2, FULL = -4;
    private static final String TWELVE = "p;p;p;p;p;p;p;p;p;p;p;p";
    private static final Due due = new Due("EdgesOfTextsTest");

    public static void main(String[] args) {
        hundredBytes();
        signs();
        clauses();
        semicolonsBetween();
        eachClause();
        digits();
        amounts();
        nothingBetween();
        faultIsTheFirstByte();
        faultAtTheEnd();
        nothingIsDoneByAFault();
        oneBehindTheOther();
        refusedOnesAreNotDone();
        emptyThen();
        due.end();
    }

    private static void hundredBytes() {
        due.sentence(0, "THE TEXT (bytes, 100 at most)");
        DebtRings x = new DebtRings();
        for (int k = 1; k <= 100; k++) {
            due.is("feed", x.feed(k % 128), k);
        }
        due.is("the 101st", x.feed('p'), FULL);
        due.is("count", x.count(3), 100);
        due.is("read()", x.read(), -10);
        due.is("it has room again", x.feed('p'), 1);
        DebtRings end = new DebtRings();
        Setups.feedAll(end, "p" + ";o0110".repeat(11));
        for (int k = end.count(3); k < 100; k++) {
            end.feed(';');
        }
        due.is("the first byte behind twelve clauses", end.read(), -10 - 67);
    }

    private static void signs() {
        due.sentence(8, "A sign (0 .. 127) comes behind THE TEXT's: how many it has. BAD; FULL");
        due.only("feed", 0, 127, BAD, sign -> new DebtRings().feed(sign));
        DebtRings x = new DebtRings();
        due.is("the least", x.feed(0), 1);
        due.is("the greatest", x.feed(127), 2);
        due.is("refused", x.feed(-1), BAD);
        due.is("refused", x.feed(128), BAD);
        due.is("they did not come", x.count(3), 2);
        due.is("behind them", x.feed('p'), 3);
        Setups.feedAll(x, "q".repeat(97));
        due.is("BAD ahead of FULL", x.feed(-1), BAD);
        due.is("BAD ahead of FULL", x.feed(128), BAD);
        due.is("FULL", x.feed(127), FULL);
        due.is("FULL", x.feed(0), FULL);
    }

    private static void clauses() {
        due.sentence(0, "CLAUSES, 1 to 12");
        due.is("none", Setups.readAll(new DebtRings(), ""), -10);
        due.is("one", Setups.readAll(new DebtRings(), "p"), 1);
        DebtRings x = Setups.people(2);
        due.is("eleven", Setups.readAll(x, "o011" + ";o011".repeat(10)), 11);
        due.is("of 0 1", x.of(0, 1, 0), 11);
        due.is("twelve", Setups.readAll(x, "o011" + ";o011".repeat(11)), 12);
        due.is("of 0 1", x.of(0, 1, 0), 23);
        due.is("thirteen", Setups.readAll(x, "o011" + ";o011".repeat(12)), -10 - 59);
        due.is("of 0 1", x.of(0, 1, 0), 23);
        due.is("twelve of them, six done", Setups.readAll(new DebtRings(), TWELVE), 6);
        due.is("thirteen", Setups.readAll(new DebtRings(), TWELVE + ";p"), -10 - 23);
        due.is("the longest twelve", Setups.readAll(x, "o0110" + ";o0110".repeat(11)), 12);
        due.is("of 0 1", x.of(0, 1, 0), 143);
    }

    private static void semicolonsBetween() {
        due.sentence(0, "with ; between");
        faultIs("p;", 2);
        faultIs(";p", 0);
        faultIs("p;;p", 2);
        faultIs("pp", 1);
        faultIs("p,p", 1);
        faultIs("p:p", 1);
        faultIs("p\n", 1);
        faultIs("o011p", 4);
        faultIs("o0112p", 5);
        faultIs("n01p", 3);
        faultIs("y01p", 3);
        faultIs("c0p", 2);
        faultIs(";", 0);
        faultIs(TWELVE + ";", 23);
        faultIs(TWELVE + "p", 23);
    }

    private static void eachClause() {
        due.sentence(0, "p (a PERSON comes); o i j AMOUNT (PERSON i OWES j so much more); n i j (i does not CONSENT "
            + "to j any more); y i j (i does); c RULE (a CUT)");
        DebtRings x = Setups.people(5);
        due.is("p", Setups.readAll(x, "p"), 1);
        due.is("told 0", x.told(0), 6);
        due.is("o", Setups.readAll(x, "o541"), 1);
        due.is("of 5 4", x.of(5, 4, 0), 1);
        due.is("o, more", Setups.readAll(x, "o5499"), 1);
        due.is("of 5 4", x.of(5, 4, 0), 100);
        due.is("n", Setups.readAll(x, "n54"), 1);
        due.is("of 5 4", x.of(5, 4, 1), 0);
        due.is("n, as it is", Setups.readAll(x, "n54"), 1);
        due.is("of 5 4", x.of(5, 4, 1), 0);
        due.is("y", Setups.readAll(x, "y54"), 1);
        due.is("of 5 4", x.of(5, 4, 1), 1);
        due.is("y, as it is", Setups.readAll(x, "y54"), 1);
        due.is("of 5 4", x.of(5, 4, 1), 1);
        x.owe(4, 5, 7);
        for (int rule = 0; rule <= 3; rule++) {
            x.owe(0, 1, 1);
            x.owe(1, 0, 1);
            x.consent(4, 5, rule != 3);
            due.is("c" + rule, Setups.readAll(x, "c" + rule), 1);
            due.is("one cut", x.told(3), rule + 1);
            due.is("by this rule", x.trail(rule, 0), rule);
        }
    }

    private static void digits() {
        due.sentence(0, "i, j, RULE: a digit each");
        for (char sign = 1; sign < 128; sign++) {
            boolean isDigit = sign >= '0' && sign <= '9';
            DebtRings x = Setups.people(2);
            due.is("o" + (int) sign, Setups.readAll(x, "o" + sign + "85"), isDigit ? 0 : -11);
            due.is("o0" + (int) sign, Setups.readAll(x, "o0" + sign + "5"), isDigit ? sign == '1' ? 1 : 0 : -12);
            due.is("n" + (int) sign, Setups.readAll(x, "n" + sign + "8"), isDigit ? 0 : -11);
            due.is("y0" + (int) sign, Setups.readAll(x, "y0" + sign), isDigit ? sign == '1' ? 1 : 0 : -12);
            due.is("c" + (int) sign, Setups.readAll(x, "c" + sign), isDigit ? 0 : -11);
        }
        faultIs("o005x", 4);
        faultIs("n012", 3);
        faultIs("y012", 3);
        faultIs("c00", 2);
    }

    private static void amounts() {
        due.sentence(0, "AMOUNT: 1 or 2 digits");
        faultIs("o01", 3);
        faultIs("o01;p", 3);
        faultIs("o01-5", 3);
        faultIs("o01123", 5);
        faultIs("o01001", 5);
        for (int amount = 1; amount <= 99; amount++) {
            DebtRings x = Setups.people(2);
            due.is("done", Setups.readAll(x, "o01" + amount), 1);
            due.is("of 0 1", x.of(0, 1, 0), amount);
        }
        for (int amount = 1; amount <= 9; amount++) {
            DebtRings x = Setups.people(2);
            due.is("done", Setups.readAll(x, "o010" + amount), 1);
            due.is("of 0 1", x.of(0, 1, 0), amount);
        }
    }

    private static void nothingBetween() {
        due.sentence(0, "Nothing stands between (no blanks)");
        String whole = "p;o0125;n01;y10;c2";
        for (int place = 0; place <= whole.length(); place++) {
            // A blank behind a whole set-up, or wherever else: none begins so.
            faultIs(whole.substring(0, place) + " " + whole.substring(place), place);
            faultIs(whole.substring(0, place) + "\t" + whole.substring(place), place);
            faultIs(whole.substring(0, place) + "\0" + whole.substring(place), place);
        }
    }

    private static void faultIsTheFirstByte() {
        due.sentence(0, "The FAULT: the place of the first byte with which none begins so");
        for (char sign = 1; sign < 128; sign++) {
            boolean begins = "ponyc".indexOf(sign) >= 0;
            due.is("read() of sign " + (int) sign, Setups.readAll(Setups.people(2), "" + sign),
                sign == 'p' ? 1 : begins ? -11 : -10);
            due.is("read() of p, sign " + (int) sign, Setups.readAll(Setups.people(2), "p" + sign),
                sign == ';' ? -12 : -11);
        }
        faultIs("x;x", 0);
        faultIs("p;x;x", 2);
        faultIs("P", 0);
        faultIs("p;P", 2);
        faultIs("p;o011;n01;y01;c0;0", 18);
        faultIs(TWELVE.substring(0, 22) + "o0", 24);
        faultIs(TWELVE.substring(0, 22) + "x", 22);
        faultIs(TWELVE + ";x", 23);
    }

    private static void faultAtTheEnd() {
        due.sentence(0, "(the end of THE TEXT, if it ends too early)");
        faultIs("", 0);
        String[] clauses = {"o011", "n01", "y01", "c0"};
        for (String clause : clauses) {
            for (int length = 1; length < clause.length(); length++) {
                faultIs(clause.substring(0, length), length);
                faultIs("p;" + clause.substring(0, length), 2 + length);
            }
        }
        faultIs("p;", 2);
        faultIs("o0112;", 6);
        faultIs("p;p;p;p;p;p;p;p;p;p;p;", 22);
    }

    private static void nothingIsDoneByAFault() {
        due.sentence(0, "Without FAULT they are done");
        String[] texts = {"p;o015;x", "o015;", "o015;n01;c", "o015;o015 ", "p;p;p;p;p;p;p;p;p;p;p;p;p"};
        for (String text : texts) {
            DebtRings x = Setups.owing(2, 0, 1, 5, 1, 0, 5);
            due.isTrue("a fault: " + text, Setups.readAll(x, text) <= -10);
            due.is("nobody came", x.told(0), 2);
            due.is("nothing was owed", x.told(4), 10);
            due.is("of 0 1", x.of(0, 1, 1), 1);
            due.is("nothing was cut", x.told(3), 0);
        }
    }

    private static void oneBehindTheOther() {
        due.sentence(0, "they are done, one behind the other");
        DebtRings x = new DebtRings();
        due.is("people ahead of debts", Setups.readAll(x, "p;o011;p;o011"), 3);
        due.is("of 0 1", x.of(0, 1, 0), 1);
        due.is("a cut between", Setups.readAll(x, "o103;c0;o012;c0"), 4);
        due.is("two cuts", x.told(3), 2);
        due.is("the first one", x.trail(0, 2), 1);
        due.is("the second one", x.trail(1, 2), 2);
        due.is("n ahead of y", Setups.readAll(x, "n01;y01"), 2);
        due.is("of 0 1", x.of(0, 1, 1), 1);
        due.is("y ahead of n", Setups.readAll(x, "y01;n01"), 2);
        due.is("of 0 1", x.of(0, 1, 1), 0);
    }

    private static void refusedOnesAreNotDone() {
        due.sentence(0, "those that would be refused (or CUT nothing) aren't");
        due.is("o, nobody is there", Setups.readAll(new DebtRings(), "o015"), 0);
        due.is("a seventh p", Setups.readAll(Setups.people(6), "p"), 0);
        due.is("p;p with five", Setups.readAll(Setups.people(5), "p;p"), 1);
        DebtRings x = Setups.owing(6, 0, 1, 900);
        due.is("o, i above", Setups.readAll(x, "o605"), 0);
        due.is("o, j above", Setups.readAll(x, "o095"), 0);
        due.is("o, one twice", Setups.readAll(x, "o555"), 0);
        due.is("o 0", Setups.readAll(x, "o010"), 0);
        due.is("o 00", Setups.readAll(x, "o0100"), 0);
        due.is("up to 999", Setups.readAll(x, "o0199"), 1);
        due.is("above 999", Setups.readAll(x, "o011"), 0);
        due.is("n, i above", Setups.readAll(x, "n60"), 0);
        due.is("n, one twice", Setups.readAll(x, "n00"), 0);
        due.is("y, j above", Setups.readAll(x, "y07"), 0);
        due.is("y, one twice", Setups.readAll(x, "y33"), 0);
        for (int rule = 0; rule <= 9; rule++) {
            due.is("nothing to cut, or no such rule, " + rule, Setups.readAll(x, "c" + rule), 0);
        }
        x.owe(1, 0, 5);
        x.consent(1, 0, false);
        due.is("none that is agreed", Setups.readAll(x, "c3"), 0);
        due.is("nothing was done", x.told(4), 1004);
        due.is("those behind are done", Setups.readAll(x, "c4;o010;c3;p;y10;c3"), 2);
        due.is("told 4", x.told(4), 994);
        DebtRings full = Setups.trailOf(40);
        due.is("the trail is full", Setups.readAll(full, "o011;o101;c0;c1;c2;c3"), 2);
        due.is("told 3", full.told(3), 40);
    }

    private static void emptyThen() {
        due.sentence(9, "THE TEXT, which is empty then (by a FAULT, too), is a set-up: how many CLAUSES were done; "
            + "-10 less the FAULT");
        DebtRings x = new DebtRings();
        due.is("p;p", Setups.readAll(x, "p;p"), 2);
        due.is("it is empty", x.count(3), 0);
        due.is("nothing is read twice", x.read(), -10);
        due.is("it is empty", x.count(3), 0);
        due.is("told 0", x.told(0), 2);
        due.is("p;x", Setups.readAll(x, "p;x"), -12);
        due.is("it is empty", x.count(3), 0);
        due.is("what comes is the first", x.feed('p'), 1);
        due.is("p alone", x.read(), 1);
        due.is("told 0", x.told(0), 3);
        due.is("none is done, no fault", Setups.readAll(x, "o000"), 0);
        due.is("it is empty", x.count(3), 0);
    }

    private static void faultIs(String text, int place) {
        DebtRings x = Setups.people(2);
        due.is("read() of " + text, Setups.readAll(x, text), -10 - place);
        due.is("told 0 behind " + text, x.told(0), 2);
        due.is("told 1 behind " + text, x.told(1), 0);
        due.is("count 3 behind " + text, x.count(3), 0);
    }
}
