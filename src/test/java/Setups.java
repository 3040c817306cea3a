/** Objects that several tests begin with, and what several tests compare of them. */
final class Setups {
    private Setups() {
    }

    static DebtRings people(int n) {
        DebtRings x = new DebtRings();
        for (int p = 0; p < n; p++) {
            x.person();
        }
        return x;
    }

    /** Rows of i, j, amount. */
    static DebtRings owing(int people, int... rows) {
        DebtRings x = people(people);
        for (int r = 0; r + 2 < rows.length; r += 3) {
            oweAll(x, rows[r], rows[r + 1], rows[r + 2]);
        }
        return x;
    }

    /** An amount of any size, told in calls of 99 at most. */
    static void oweAll(DebtRings x, int i, int j, int amount) {
        for (int rest = amount; rest > 0; rest -= 99) {
            x.owe(i, j, Math.min(rest, 99));
        }
    }

    /** Six people, each of whom owes each other one as much. */
    static DebtRings allOwing(int amount) {
        DebtRings x = people(6);
        for (int i = 0; i < 6; i++) {
            for (int j = 0; j < 6; j++) {
                if (i != j) {
                    oweAll(x, i, j, amount);
                }
            }
        }
        return x;
    }

    /** Two people, nothing owed, and so many cuts behind them. */
    static DebtRings trailOf(int cuts) {
        DebtRings x = people(2);
        for (int k = 0; k < cuts; k++) {
            x.owe(0, 1, 1);
            x.owe(1, 0, 1);
            x.cut(0, 1);
        }
        return x;
    }

    static int feedAll(DebtRings x, String text) {
        int last = 0;
        for (int k = 0; k < text.length(); k++) {
            last = x.feed(text.charAt(k));
        }
        return last;
    }

    static int readAll(DebtRings x, String text) {
        feedAll(x, text);
        return x.read();
    }

    static void ringIs(Due due, DebtRings x, int rule, int least, int... people) {
        due.is("ring " + rule + " -1", x.ring(rule, -1), people.length);
        due.is("ring " + rule + " -2", x.ring(rule, -2), least);
        for (int k = 0; k < people.length; k++) {
            due.is("ring " + rule + " " + k, x.ring(rule, k), people[k]);
        }
        due.is("ring " + rule + ", behind the last", x.ring(rule, people.length), -1);
        due.is("ring " + rule + " -3", x.ring(rule, -3), -1);
        due.is("ring, far off", x.ring(rule, Integer.MAX_VALUE), -1);
    }

    static void debtsAre(Due due, DebtRings x, int[]... rows) {
        due.is("told 1", x.told(1), rows.length);
        for (int k = 0; k < rows.length; k++) {
            for (int what = 0; what < 3; what++) {
                due.is("debt " + k + " " + what, x.debt(k, what), rows[k][what]);
            }
            due.is("its number", x.of(rows[k][0], rows[k][1], 2), k);
        }
        due.is("debt behind the last", x.debt(rows.length, 0), -1);
    }

    static void groupsAre(Due due, DebtRings x, int... groups) {
        for (int k = 0; k < groups.length; k++) {
            due.is("group " + k, x.group(k), groups[k]);
        }
        due.is("group behind the last", x.group(groups.length), -1);
        due.is("group -1", x.group(-1), -1);
        due.is("told 7", x.told(7), groups.length);
    }

    static void paymentsAre(Due due, DebtRings x, int[]... rows) {
        for (int k = 0; k < rows.length; k++) {
            for (int what = 0; what < 3; what++) {
                due.is("payment " + k + " " + what, x.payment(k, what), rows[k][what]);
            }
        }
        due.is("payment behind the last", x.payment(rows.length, 0), -1);
        due.is("told 8", x.told(8), rows.length);
    }

    static void willingAre(Due due, DebtRings x, int[]... rows) {
        for (int k = 0; k < rows.length; k++) {
            for (int what = 0; what < 3; what++) {
                due.is("willing " + k + " " + what, x.willing(k, what), rows[k][what]);
            }
        }
        due.is("willing behind the last", x.willing(rows.length, 0), -1);
        due.is("told 10", x.told(10), rows.length);
    }
}
