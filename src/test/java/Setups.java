/** Objects that several tests begin with. */
final class Setups {
    private Setups() {
    }

    static DebtRings people(int n) {
        DebtRings x = new DebtRings();
        for (int p = 0; p < n; p++) {
            x.person();
        }
        return x;
    }

    /** Rows of i, j, amount. */
    static DebtRings owing(int people, int... rows) {
        DebtRings x = people(people);
        for (int r = 0; r + 2 < rows.length; r += 3) {
            oweAll(x, rows[r], rows[r + 1], rows[r + 2]);
        }
        return x;
    }

    /** An amount of any size, told in calls of 99 at most. */
    static void oweAll(DebtRings x, int i, int j, int amount) {
        for (int rest = amount; rest > 0; rest -= 99) {
            x.owe(i, j, Math.min(rest, 99));
        }
    }

    static int feedAll(DebtRings x, String text) {
        int last = 0;
        for (int k = 0; k < text.length(); k++) {
            last = x.feed(text.charAt(k));
        }
        return last;
    }

    static int readAll(DebtRings x, String text) {
        feedAll(x, text);
        return x.read();
    }
}
