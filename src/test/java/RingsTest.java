/** Promises 10 to 13: cuts by four rules, the trail. */
public final class RingsTest {
    private static final Due due = new Due("RingsTest");

    public static void main(String[] args) {
        cut();
        cutKeepsOrder();
        trailIsFull();
        ringByRules();
        ringOrder();
        agreed();
        trail();
        forget();
        due.end();
    }

    private static DebtRings twoRings() {
        return Setups.owing(4, 0, 1, 5, 1, 2, 8, 2, 3, 8, 3, 1, 9, 1, 0, 4);
    }

    private static void cut() {
        due.promise(10);
        DebtRings x = twoRings();
        due.is("rule -1", x.cut(-1, 1), -2);
        due.is("rule 4", x.cut(4, 1), -2);
        due.is("n -1", x.cut(0, -1), -2);
        due.is("n 41", x.cut(0, 41), -2);
        due.is("n far off", x.cut(0, Integer.MAX_VALUE), -2);
        due.is("n 0", x.cut(0, 0), 0);
        due.is("told 4", x.told(4), 34);
        due.is("told 3", x.told(3), 0);
        due.is("one", x.cut(0, 1), 1);
        due.is("of 0 1", x.of(0, 1, 0), 1);
        due.is("of 1 0", x.of(1, 0, 0), 0);
        due.is("of 1 2", x.of(1, 2, 0), 8);
        due.is("till there is none", x.cut(0, 40), 1);
        due.is("none any more", x.cut(0, 40), 0);
        due.is("told 4", x.told(4), 2);
        DebtRings y = twoRings();
        due.is("HIGH first", y.cut(1, 1), 1);
        due.is("of 3 1", y.of(3, 1, 0), 1);
        due.is("of 1 0", y.of(1, 0, 0), 4);
    }

    private static void cutKeepsOrder() {
        DebtRings x = twoRings();
        x.cut(1, 1);
        due.is("told 1", x.told(1), 3);
        due.is("of 0 1", x.of(0, 1, 2), 0);
        due.is("of 3 1", x.of(3, 1, 2), 1);
        due.is("of 1 0", x.of(1, 0, 2), 2);
        due.is("of 1 2", x.of(1, 2, 2), -5);
        x.owe(1, 2, 1);
        due.is("a debt that comes again is the last", x.of(1, 2, 2), 3);
    }

    private static void trailIsFull() {
        DebtRings x = Setups.people(2);
        for (int k = 0; k < 39; k++) {
            x.owe(0, 1, 1);
            x.owe(1, 0, 1);
            due.is("cut", x.cut(k % 4, 1), 1);
        }
        for (int p = 2; p < 6; p++) {
            x.person();
        }
        Setups.oweAll(x, 0, 1, 2);
        Setups.oweAll(x, 1, 0, 2);
        Setups.oweAll(x, 2, 3, 2);
        Setups.oweAll(x, 3, 2, 2);
        due.is("the fortieth is the last", x.cut(0, 40), 1);
        due.is("none any more", x.cut(1, 40), 0);
        due.is("told 3", x.told(3), 40);
        due.is("told 4", x.told(4), 4);
        due.is("the last of the trail", x.trail(39, 2), 2);
        due.is("trail 40", x.trail(40, 2), -1);
        due.promise(11);
        due.is("ring, whatever the trail holds", x.ring(0, 0), 2);
        due.promise(26);
        x.event(2, 0);
        due.is("an event's cut, whatever the trail holds", x.after(0), 0);
        due.promise(13);
        due.is("forget", x.forget(), 40);
        due.is("cut again", x.cut(0, 40), 1);
    }

    private static void ringByRules() {
        due.promise(11);
        DebtRings none = Setups.owing(3, 0, 1, 5, 1, 2, 5);
        for (int rule = 0; rule <= 3; rule++) {
            for (int k = -3; k <= 6; k++) {
                due.is("there is none, whatever k is", none.ring(rule, k), -5);
            }
        }
        due.is("rule -1", none.ring(-1, 0), -2);
        due.is("rule 4", none.ring(4, 0), -2);
        DebtRings x = twoRings();
        ringIs(x, 0, 4, 0, 1);
        ringIs(x, 1, 8, 1, 2, 3);
        ringIs(x, 2, 8, 1, 2, 3);
        ringIs(x, 3, 4, 0, 1);
        due.is("rule 4", x.ring(4, 0), -2);
        due.is("nothing was cut", x.told(4), 34);
        due.is("nothing is in the trail", x.told(3), 0);
        DebtRings deep = Setups.owing(5, 0, 1, 10, 1, 0, 10, 2, 3, 7, 3, 4, 7, 4, 2, 8);
        ringIs(deep, 1, 10, 0, 1);
        ringIs(deep, 2, 7, 2, 3, 4);
        DebtRings alike = Setups.owing(5, 0, 1, 9, 1, 0, 9, 2, 3, 6, 3, 4, 6, 4, 2, 6);
        ringIs(alike, 2, 9, 0, 1);
        DebtRings pairs = Setups.owing(4, 2, 3, 9, 3, 2, 9, 0, 1, 9, 1, 0, 9);
        ringIs(pairs, 0, 9, 0, 1);
        ringIs(pairs, 1, 9, 0, 1);
        ringIs(pairs, 2, 9, 0, 1);
    }

    private static void ringOrder() {
        DebtRings fewest = Setups.owing(5, 0, 1, 5, 1, 2, 5, 2, 0, 5, 3, 4, 5, 4, 3, 5);
        ringIs(fewest, 0, 5, 3, 4);
        ringIs(fewest, 1, 5, 3, 4);
        ringIs(fewest, 2, 5, 0, 1, 2);
        DebtRings bothWays = Setups.owing(3, 0, 2, 5, 2, 1, 5, 1, 0, 5);
        ringIs(bothWays, 0, 5, 0, 2, 1);
        DebtRings all = Setups.people(6);
        for (int i = 0; i < 6; i++) {
            for (int j = 0; j < 6; j++) {
                all.owe(i, j, 3);
            }
        }
        due.is("all rings of six", all.told(2), 409);
        ringIs(all, 1, 3, 0, 1);
        ringIs(all, 2, 3, 0, 1, 2, 3, 4, 5);
        due.is("all are cut", all.cut(2, 40) > 0 ? 1 : 0, 1);
        due.is("nothing is left", all.told(4), 0);
    }

    private static void agreed() {
        DebtRings x = twoRings();
        x.consent(1, 0, false);
        ringIs(x, 3, 8, 1, 2, 3);
        ringIs(x, 0, 4, 0, 1);
        x.consent(3, 1, false);
        due.is("none that is agreed", x.ring(3, 0), -5);
        due.is("no cut", x.cut(3, 40), 0);
        due.is("rings, agreed or not", x.told(2), 2);
        x.consent(1, 0, true);
        x.consent(0, 2, false);
        ringIs(x, 3, 4, 0, 1);
        due.is("cuts", x.cut(3, 40), 1);
        due.is("told 4", x.told(4), 26);
    }

    private static void ringIs(DebtRings x, int rule, int least, int... people) {
        Setups.ringIs(due, x, rule, least, people);
    }

    private static void trail() {
        due.promise(12);
        DebtRings x = twoRings();
        due.is("trail, nothing yet", x.trail(0, 0), -1);
        x.cut(2, 1);
        x.cut(3, 1);
        int[][] rows = {{2, 3, 8}, {3, 2, 4}};
        for (int k = 0; k < 2; k++) {
            for (int what = 0; what < 3; what++) {
                due.is("trail " + k + " " + what, x.trail(k, what), rows[k][what]);
            }
        }
        due.is("trail -1", x.trail(-1, 0), -1);
        due.is("trail 2", x.trail(2, 0), -1);
        due.is("what -1", x.trail(0, -1), -1);
        due.is("what 3", x.trail(0, 3), -1);
    }

    private static void forget() {
        due.promise(13);
        DebtRings x = twoRings();
        due.is("forget nothing", x.forget(), 0);
        x.cut(0, 40);
        int left = x.told(4);
        due.is("forget", x.forget(), 2);
        due.is("told 3", x.told(3), 0);
        due.is("trail", x.trail(0, 0), -1);
        due.is("debts stay", x.told(4), left);
        due.is("forget again", x.forget(), 0);
    }
}
