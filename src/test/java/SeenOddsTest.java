/** Promises 21 to 24: what is seen, by which debts it fits, odds, means. */
public final class SeenOddsTest {
    private static final Due due = new Due("SeenOddsTest");

    public static void main(String[] args) {
        see();
        fits();
        fitsChangesNothing();
        odds();
        mean();
        due.end();
    }

    private static void see() {
        due.promise(21);
        DebtRings x = Setups.people(3);
        due.is("one twice", x.see(1, 1, 5), -1);
        due.is("i above", x.see(3, 1, 5), -1);
        due.is("i -2", x.see(-2, 1, 5), -1);
        due.is("j above", x.see(0, 3, 5), -1);
        due.is("j -1", x.see(0, -1, 5), -1);
        due.is("NONE ahead of BAD", x.see(0, 0, 0), -1);
        due.is("n 0", x.see(0, 1, 0), -2);
        due.is("n 1000", x.see(0, 1, 1000), -2);
        due.is("count", x.count(0), 0);
        due.is("n 1", x.see(0, 1, 1), 1);
        due.is("n 999", x.see(0, 1, 999), 2);
        due.is("the same again", x.see(0, 1, 999), 3);
        due.is("see", x.see(2, 0, 5), 4);
        due.is("see", x.see(2, 1, 5), 5);
        due.is("full", x.see(2, 1, 5), -4);
        due.is("BAD ahead of FULL", x.see(2, 1, 0), -2);
        due.is("NONE ahead of FULL", x.see(2, 3, 1), -1);
        due.is("count", x.count(0), 5);
        due.is("none then", x.see(-1, 99, -99), 0);
        due.is("count", x.count(0), 0);
        due.is("see again", x.see(1, 0, 5), 1);
        due.is("none, nobody there", new DebtRings().see(-1, 0, 0), 0);
    }

    private static void fits() {
        due.promise(22);
        DebtRings x = Setups.owing(3, 0, 1, 500);
        due.is("nothing seen: all fit", x.fits(0, 1, 0), 31);
        due.is("the least", x.fits(0, 1, 1), 0);
        due.is("what -1", x.fits(0, 1, -1), -1);
        due.is("what 2", x.fits(0, 1, 2), -1);
        due.is("one twice", x.fits(1, 1, 0), -1);
        due.is("j above", x.fits(0, 3, 0), -1);
        due.is("i -1", x.fits(-1, 0, 0), -1);
        x.see(0, 1, 30);
        due.is("30 instead of 500", x.fits(0, 1, 0), 1);
        due.is("the least", x.fits(0, 1, 1), 30);
        due.is("the other way", x.fits(1, 0, 0), 0);
        due.is("none", x.fits(1, 0, 1), -5);
        x.see(-1, 0, 0);
        x.see(0, 1, 31);
        due.is("31 is beyond", x.fits(0, 1, 0), 0);
        x.see(-1, 0, 0);
        x.see(0, 1, 500);
        // What 2 owes 0 must be 0: else 2 pays, too, and 0 pays less.
        due.is("as it is", x.fits(2, 0, 0), 1);
        due.is("the least", x.fits(2, 0, 1), 0);
        DebtRings y = Setups.owing(4, 0, 1, 8);
        y.see(0, 1, 8);
        due.is("a debt of others does not disturb it, not even one of 8", y.fits(2, 3, 0), 31);
        // 8 is otherwise here: 0 goes with 1, who has less bits than 3.
        DebtRings z = Setups.owing(4, 0, 3, 8);
        z.see(0, 3, 8);
        due.is("8 disturbs it", z.fits(2, 1, 0), 30);
        y.see(2, 3, 5);
        due.is("both must be among payments", y.fits(2, 3, 0), 1);
        due.is("the least", y.fits(2, 3, 1), 5);
        y.see(2, 3, 5);
        due.is("told twice is as told once", y.fits(2, 3, 0), 1);
        y.see(3, 2, 5);
        due.is("not both ways", y.fits(2, 3, 1), -5);
    }

    private static void fitsChangesNothing() {
        DebtRings x = Setups.owing(3, 0, 1, 5, 1, 2, 6);
        x.fits(0, 1, 0);
        x.odds(0, 1, 0);
        x.without(0);
        due.is("of 0 1", x.of(0, 1, 0), 5);
        due.is("its number", x.of(0, 1, 2), 0);
        due.is("told 4", x.told(4), 11);
        due.is("told 3", x.told(3), 0);
    }

    private static void odds() {
        due.promise(23);
        DebtRings x = Setups.owing(3, 1, 0, 5);
        due.is("1 .. 9 of ten, above", x.odds(0, 1, 0), 9);
        due.is("below", x.odds(0, 1, 1), 10);
        due.is("2 owes nobody: never", x.odds(2, 1, 0), 0);
        due.is("0 of 1", x.odds(2, 1, 1), 1);
        // The ring of 1 and 2 has 6: 0 to 1 is taken with 6 (the first), 7, 8, 9.
        DebtRings y = Setups.owing(3, 1, 0, 50, 1, 2, 6, 2, 1, 6);
        due.is("2 of 5, above", y.odds(0, 1, 0), 2);
        due.is("2 of 5, below", y.odds(0, 1, 1), 5);
        // Behind one another, last and first: 2 to 0 in the ring 0, 1, 2.
        DebtRings z = Setups.owing(3, 0, 1, 5, 1, 2, 5, 2, 0, 300);
        due.is("the last and the first", z.odds(2, 0, 0), 9);
        // The ring 0, 1, 2 has 5: 0 to 2 is taken with 5 (fewer people), 6, 7, 8, 9.
        due.is("1 of 2, above", z.odds(0, 2, 0), 1);
        due.is("1 of 2, below", z.odds(0, 2, 1), 2);
        due.is("part -1", x.odds(0, 1, -1), Long.MIN_VALUE);
        due.is("part 2", x.odds(0, 1, 2), Long.MIN_VALUE);
        due.is("one twice", x.odds(1, 1, 0), Long.MIN_VALUE);
        due.is("j above", x.odds(1, 3, 0), Long.MIN_VALUE);
        due.is("i below", x.odds(-1, 1, 0), Long.MIN_VALUE);
    }

    private static void mean() {
        due.promise(24);
        DebtRings x = Setups.people(4);
        due.is("none", x.mean(0), Long.MIN_VALUE);
        due.is("none", x.mean(1), Long.MIN_VALUE);
        x.owe(0, 1, 6);
        meanIs(x, 6, 1);
        x.owe(1, 2, 9);
        meanIs(x, 15, 2);
        x.owe(2, 0, 3);
        meanIs(x, 6, 1);
        x.owe(3, 0, 4);
        meanIs(x, 11, 2);
        x.pay(2, 0, 3);
        meanIs(x, 19, 3);
        due.is("part -1", x.mean(-1), Long.MIN_VALUE);
        due.is("part 2", x.mean(2), Long.MIN_VALUE);
    }

    private static void meanIs(DebtRings x, int above, int below) {
        due.is("mean, above", x.mean(0), above);
        due.is("mean, below", x.mean(1), below);
    }
}
