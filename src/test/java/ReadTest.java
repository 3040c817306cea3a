/** Promises 8 and 9: the text, and set-ups read from it. */
public final class ReadTest {
    private static final Due due = new Due("ReadTest");

    public static void main(String[] args) {
        feed();
        clauses();
        refusedClauses();
        faults();
        readEmpties();
        due.end();
    }

    private static void feed() {
        due.promise(8);
        DebtRings x = new DebtRings();
        due.is("feed -1", x.feed(-1), -2);
        due.is("feed 128", x.feed(128), -2);
        due.is("feed far off", x.feed(Integer.MIN_VALUE), -2);
        due.is("feed 256 + 'p'", x.feed(256 + 'p'), -2);
        due.is("count", x.count(3), 0);
        due.is("feed 0", x.feed(0), 1);
        due.is("feed 127", x.feed(127), 2);
        for (int k = 3; k <= 100; k++) {
            due.is("feed", x.feed('p'), k);
        }
        due.is("feed the 101st", x.feed('p'), -4);
        due.is("BAD ahead of FULL", x.feed(128), -2);
        due.is("count", x.count(3), 100);
        due.is("the first byte is the fault", x.read(), -10);
        due.is("feed again", x.feed('p'), 1);
        due.is("read", x.read(), 1);
    }

    private static void clauses() {
        due.promise(9);
        DebtRings x = new DebtRings();
        due.is("p", Setups.readAll(x, "p"), 1);
        due.is("told 0", x.told(0), 1);
        due.is("p;p", Setups.readAll(x, "p;p"), 2);
        due.is("told 0", x.told(0), 3);
        due.is("o017;o1238", Setups.readAll(x, "o017;o1238"), 2);
        due.is("of 0 1", x.of(0, 1, 0), 7);
        due.is("of 1 2", x.of(1, 2, 0), 38);
        due.is("o0109", Setups.readAll(x, "o0109"), 1);
        due.is("of 0 1, more", x.of(0, 1, 0), 16);
        due.is("o0199", Setups.readAll(x, "o0199"), 1);
        due.is("of 0 1, two digits", x.of(0, 1, 0), 115);
        due.is("n01;n01;n10", Setups.readAll(x, "n01;n01;n10"), 3);
        due.is("of 0 1", x.of(0, 1, 1), 0);
        due.is("of 1 0", x.of(1, 0, 1), 0);
        due.is("y01", Setups.readAll(x, "y01"), 1);
        due.is("of 0 1", x.of(0, 1, 1), 1);
        due.is("of 1 0", x.of(1, 0, 1), 0);
        due.is("a ring, and a cut", Setups.readAll(x, "o205;c1;c0"), 2);
        due.is("trail, rule", x.trail(0, 0), 1);
        due.is("trail, people", x.trail(0, 1), 3);
        due.is("trail, least", x.trail(0, 2), 5);
        due.is("told 3", x.told(3), 1);
        DebtRings rings = Setups.owing(4, 0, 1, 5, 1, 0, 5, 2, 3, 6, 3, 2, 6);
        due.is("one cut a clause", Setups.readAll(rings, "c0"), 1);
        due.is("one ring stays", rings.told(4), 12);
        DebtRings twelve = new DebtRings();
        due.is("twelve clauses", Setups.readAll(twelve, "p;p;p;o011;o0299;o121;o201;n01;y01;n02;c0;o1020"), 12);
        due.is("the last one", twelve.of(1, 0, 0), 20);
    }

    private static void refusedClauses() {
        DebtRings x = Setups.people(2);
        due.is("no such person", Setups.readAll(x, "o095;o905;n02;y20;o021"), 0);
        due.is("one twice", Setups.readAll(x, "o005;n11"), 0);
        due.is("amount 0", Setups.readAll(x, "o010;o0100"), 0);
        due.is("no such rule", Setups.readAll(x, "c4;c9"), 0);
        due.is("nothing to cut", Setups.readAll(x, "c0"), 0);
        due.is("told 1", x.told(1), 0);
        due.is("those behind are done", Setups.readAll(x, "o029;p;o029;c3"), 2);
        due.is("of 0 2", x.of(0, 2, 0), 9);
        due.is("six at most", Setups.readAll(x, "p;p;p;p;p"), 3);
        Setups.oweAll(x, 0, 1, 990);
        due.is("beyond 999", Setups.readAll(x, "o0110;o019;o011"), 1);
        due.is("of 0 1", x.of(0, 1, 0), 999);
        DebtRings full = Setups.people(2);
        for (int k = 0; k < 40; k++) {
            Setups.readAll(full, "o011;o101;c0");
        }
        due.is("told 3", full.told(3), 40);
        due.is("the trail is full", Setups.readAll(full, "o011;o101;c0"), 2);
    }

    private static void faults() {
        faultIs("", 0);
        faultIs("x", 0);
        faultIs("P", 0);
        faultIs(";p", 0);
        faultIs(" p", 0);
        faultIs("p;", 2);
        faultIs("pp", 1);
        faultIs("p p", 1);
        faultIs("p;;p", 2);
        faultIs("p; p", 2);
        faultIs("o", 1);
        faultIs("oa", 1);
        faultIs("o0", 2);
        faultIs("o0;", 2);
        faultIs("o01", 3);
        faultIs("o01;", 3);
        faultIs("o01-", 3);
        faultIs("o011x", 4);
        faultIs("o01123", 5);
        faultIs("o0112p", 5);
        faultIs("o 0112", 1);
        faultIs("n", 1);
        faultIs("n1", 2);
        faultIs("n101", 3);
        faultIs("y/1", 1);
        faultIs("y1:", 2);
        faultIs("c", 1);
        faultIs("cx", 1);
        faultIs("c10", 2);
        faultIs("p;o011;q", 7);
        faultIs("p;p;p;p;p;p;p;p;p;p;p;p;", 23);
        faultIs("p;p;p;p;p;p;p;p;p;p;p;p;p", 23);
        faultIs("p;p;p;p;p;p;p;p;p;p;p;o01123", 27);
        faultIs("p;p;p;p;p;p;p;p;p;p;p;o0112;", 27);
        faultIs("p\0", 1);
    }

    private static void faultIs(String text, int place) {
        DebtRings x = Setups.people(2);
        due.is("read() of " + text, Setups.readAll(x, text), -10 - place);
        due.is("nothing was done by " + text, x.told(0), 2);
        due.is("nothing was owed by " + text, x.told(1), 0);
    }

    private static void readEmpties() {
        DebtRings x = new DebtRings();
        Setups.readAll(x, "p;p");
        due.is("the text is empty behind read", x.count(3), 0);
        due.is("nothing is read twice", x.read(), -10);
        Setups.readAll(x, "p;x");
        due.is("by a fault, too", x.count(3), 0);
        due.is("told 0", x.told(0), 2);
        due.is("feed", x.feed('p'), 1);
    }
}
