import java.util.SplittableRandom;

/** All promises: runs of 512 calls, ordinary and wild ones, answered by the class as by the model. */
public final class ModelTest {
    private static final int RUNS = 1500;
    private static final int CALLS = 512;
    private static final int[] WILD = {-3, -2, -1, 0, 5, 6, 7, 40, 41, 60, 61, 99, 100, 127, 128, 999, 1000,
        Integer.MIN_VALUE, Integer.MIN_VALUE + 1, Integer.MAX_VALUE, Integer.MAX_VALUE - 1};

    private final SplittableRandom random;
    private final DebtRings x = new DebtRings();
    private final Model m = new Model();
    private final int leastAmount;
    private final int mostAmount;
    private final int wildness;
    private final int crowd;
    private final boolean isCutting;
    private final boolean isTurning;
    private final boolean isBusy;
    private final boolean isOneSided;
    private int calls;
    private String call = "";
    private long got;
    private long want;

    private ModelTest(long seed) {
        random = new SplittableRandom(seed);
        int sort = random.nextInt(4);
        leastAmount = sort == 0 ? 80 : 1;
        mostAmount = new int[] {99, 40, 4, 1}[sort];
        wildness = random.nextInt(3) == 0 ? 10 : 60;
        crowd = sort == 3 ? 6 : 2 + random.nextInt(sort == 0 ? 2 : 5);
        isCutting = random.nextInt(4) > 0;
        isTurning = random.nextInt(2) == 0;
        isBusy = random.nextInt(3) == 0;
        isOneSided = sort == 0 && random.nextInt(2) == 0;
        calls = 0;
    }

    public static void main(String[] args) {
        int wrong = 0;
        for (long seed = 0; seed < RUNS; seed++) {
            wrong += new ModelTest(seed).run(seed) ? 0 : 1;
        }
        System.out.println("ModelTest: " + RUNS + " runs of " + CALLS + " calls, " + wrong + " not as due");
        if (wrong != 0) {
            System.exit(1);
        }
    }

    private boolean run(long seed) {
        for (int p = 0; p < crowd; p++) {
            x.person();
            m.person();
            calls++;
        }
        while (calls < CALLS) {
            try {
                next();
            } catch (RuntimeException e) {
                System.out.println("run " + seed + ", call " + calls + " threw " + e);
                return false;
            }
            if (got != want) {
                System.out.println("run " + seed + ", call " + calls + ": " + call
                    + " answered " + got + ", due is " + want);
                return false;
            }
        }
        return true;
    }

    private void next() {
        int kind = random.nextInt(100);
        if (kind < (isBusy ? 85 : 45)) {
            change();
        } else if (kind < 90) {
            ask();
        } else {
            tapes();
        }
    }

    private void due(String told, long answered, long modelled) {
        calls++;
        call = told;
        got = answered;
        want = modelled;
    }

    /** Mostly a number from least to most, sometimes one that is far off. */
    private int number(int least, int most) {
        return random.nextInt(wildness) == 0
            ? WILD[random.nextInt(WILD.length)]
            : least + random.nextInt(most - least + 1);
    }

    private int somebody() {
        return number(0, Math.max(m.told(0) - 1, 0));
    }

    private int amount() {
        return number(leastAmount, mostAmount);
    }

    private void change() {
        int i = somebody();
        int j = somebody();
        int n = amount();
        boolean so = random.nextInt(3) == 0;
        int kind = random.nextInt(40);
        if (kind < 22 && isOneSided) {
            // Balances grow this way, till a payment would be above 999.
            int low = Math.min(i, j);
            int high = Math.max(i, j);
            due("owe " + low + " " + high + " " + n, x.owe(low, high, n), m.owe(low, high, n));
        } else if (kind < 22) {
            due("owe " + i + " " + j + " " + n, x.owe(i, j, n), m.owe(i, j, n));
        } else if (kind < 24) {
            due("pay " + i + " " + j + " " + n, x.pay(i, j, n), m.pay(i, j, n));
        } else if (kind < 26) {
            due("consent " + i + " " + j + " " + so, x.consent(i, j, so), m.consent(i, j, so));
        } else if (kind < 27) {
            readSome();
        } else if (kind < 30 && isCutting) {
            cut();
        } else if (kind < 32) {
            see();
        } else if (kind < 34) {
            book();
        } else if (kind < 36) {
            event(i);
        } else if (random.nextInt(4) == 0) {
            turn();
        }
    }

    private void cut() {
        int rule = number(0, 3);
        int n = number(0, random.nextInt(4) == 0 ? 40 : 2);
        due("cut " + rule + " " + n, x.cut(rule, n), m.cut(rule, n));
    }

    private void event(int person) {
        int what = number(random.nextInt(8) == 0 ? -1 : 0, 3);
        int n = what == 2 ? number(0, 3) : person;
        due("event " + what + " " + n, x.event(what, n), m.event(what, n));
    }

    /** What undoes much at once: rarely, so that much can come between. */
    private void turn() {
        int kind = random.nextInt(isTurning ? 5 : 2);
        if (kind == 0) {
            due("person()", x.person(), m.person());
        } else if (kind == 1) {
            due("image()", x.image(), m.image());
        } else if (kind == 2) {
            due("settle()", x.settle(), m.settle());
        } else if (kind == 3) {
            due("undo()", x.undo(), m.undo());
        } else {
            due("forget()", x.forget(), m.forget());
        }
    }

    /** Now and then a row that is among payments indeed. */
    private void see() {
        int k = random.nextInt(4);
        boolean isPaid = random.nextInt(3) > 0 && m.payment(k, 0) >= 0;
        int i = isPaid ? m.payment(k, 0) : random.nextInt(5) == 0 ? -1 : somebody();
        int j = isPaid ? m.payment(k, 1) : somebody();
        int n = isPaid ? m.payment(k, 2) : amount();
        due("see " + i + " " + j + " " + n, x.see(i, j, n), m.see(i, j, n));
    }

    private void book() {
        int k = random.nextInt(4);
        boolean isPaid = random.nextInt(5) > 0 && m.payment(k, 0) >= 0;
        int i = isPaid ? m.payment(k, 0) : random.nextInt(4) == 0 ? -1 : somebody();
        int j = isPaid ? m.payment(k, 1) : somebody();
        int n = isPaid ? m.payment(k, 2) : amount();
        due("book " + i + " " + j + " " + n, x.book(i, j, n), m.book(i, j, n));
    }

    /** A text near a set-up; it is read only at times, so that long ones come, too. */
    private void readSome() {
        StringBuilder told = new StringBuilder();
        int clauses = 1 + random.nextInt(random.nextInt(6) == 0 ? 13 : 4);
        for (int c = 0; c < clauses; c++) {
            told.append(c == 0 ? "" : ";").append(clause());
        }
        if (random.nextInt(3) == 0) {
            told.setCharAt(random.nextInt(told.length()), (char) random.nextInt(128));
        }
        if (random.nextInt(4) == 0) {
            told.setLength(random.nextInt(told.length() + 1));
        }
        for (int k = 0; k < told.length() && k < 60; k++) {
            due("feed " + (int) told.charAt(k), x.feed(told.charAt(k)), m.feed(told.charAt(k)));
            if (got != want || calls >= CALLS) {
                return;
            }
        }
        if (random.nextInt(5) > 1) {
            due("read() of " + told, x.read(), m.read());
        }
    }

    private String clause() {
        int i = random.nextInt(random.nextInt(5) == 0 ? 10 : 6);
        int j = random.nextInt(random.nextInt(5) == 0 ? 10 : 6);
        switch (random.nextInt(7)) {
            case 0: return "p";
            case 1: return "n" + i + j;
            case 2: return "y" + i + j;
            case 3: return "c" + random.nextInt(5);
            default: return "o" + i + j + random.nextInt(random.nextInt(3) == 0 ? 100 : 10);
        }
    }

    private void ask() {
        int i = somebody();
        int j = somebody();
        int k = number(0, 5);
        int what = number(0, 2);
        int part = number(0, 1);
        int rule = number(0, 3);
        switch (random.nextInt(21)) {
            case 0: due("of " + i + " " + j + " " + what, x.of(i, j, what), m.of(i, j, what)); break;
            case 1: case 2: due("debt " + k + " " + what, x.debt(k, what), m.debt(k, what)); break;
            case 3:
                int sign = random.nextInt(20) == 0 ? number(-1, 128) : -1;
                due("feed " + sign, x.feed(sign), m.feed(sign));
                break;
            case 4: case 5:
                int at = number(-2, 5);
                due("ring " + rule + " " + at, x.ring(rule, at), m.ring(rule, at));
                break;
            case 6:
                int cut = number(0, 39);
                due("trail " + cut + " " + what, x.trail(cut, what), m.trail(cut, what));
                break;
            case 7: due("balance " + i, x.balance(i), m.balance(i)); break;
            case 8: due("group " + k, x.group(k), m.group(k)); break;
            case 9: due("payment " + k + " " + what, x.payment(k, what), m.payment(k, what)); break;
            case 10: due("willing " + k + " " + what, x.willing(k, what), m.willing(k, what)); break;
            case 11: case 12: case 13:
                int told = number(0, 11);
                due("told " + told, x.told(told), m.told(told));
                break;
            case 14: due("without " + i, x.without(i), m.without(i)); break;
            case 15: due("fits " + i + " " + j + " " + part, x.fits(i, j, part), m.fits(i, j, part)); break;
            case 16: due("odds " + i + " " + j + " " + part, x.odds(i, j, part), m.odds(i, j, part)); break;
            case 17: due("mean " + part, x.mean(part), m.mean(part)); break;
            case 18: due("after " + what, x.after(what), m.after(what)); break;
            case 19: due("looked()", x.looked(), m.looked()); break;
            default:
                int counted = number(0, 3);
                due("count " + counted, x.count(counted), m.count(counted));
                break;
        }
    }

    private void tapes() {
        int tape = number(0, 5);
        int other = random.nextInt(3) == 0 ? tape : number(0, 5);
        int i = number(0, 8);
        int j = number(0, 8);
        int n = number(0, 9);
        switch (random.nextInt(8)) {
            case 0:
                int sort = number(random.nextInt(4) == 0 ? -1 : 0, random.nextInt(2) == 0 ? 4 : 1);
                due("tape " + tape + " " + sort + " " + n, x.tape(tape, sort, n), m.tape(tape, sort, n));
                break;
            case 1: case 2:
                long v = random.nextInt(3) == 0 ? random.nextLong() : random.nextInt(600) - 300;
                due("item " + tape + " " + i + " " + v, x.item(tape, i, v), m.item(tape, i, v));
                break;
            case 3: case 4:
                due("peek " + tape + " " + i, x.peek(tape, i), m.peek(tape, i));
                break;
            case 5:
                int most = n > 4 ? n - 4 : n;
                due("shift " + tape + " " + i + " " + other + " " + j + " " + most,
                    x.shift(tape, i, other, j, most), m.shift(tape, i, other, j, most));
                break;
            case 6:
                due("judge " + tape + " " + i, x.judge(tape, i), m.judge(tape, i));
                break;
            default:
                judgeTold();
                break;
        }
    }

    /** A tape of longs that tells payments, often rightly, sometimes too few. */
    private void judgeTold() {
        int place = random.nextInt(3);
        int length = place + random.nextInt(7);
        due("tape 3 3 " + length, x.tape(3, 3, length), m.tape(3, 3, length));
        for (int k = 0; k < m.told(8) && got == want && calls < CALLS; k++) {
            long v = 10000L * m.payment(k, 0) + 1000L * m.payment(k, 1) + m.payment(k, 2);
            long told = random.nextInt(8) == 0 ? v + 1 : v;
            due("item 3 " + (place + k) + " " + told, x.item(3, place + k, told), m.item(3, place + k, told));
        }
        if (got == want && calls < CALLS) {
            due("judge 3 " + place, x.judge(3, place), m.judge(3, place));
        }
    }
}
