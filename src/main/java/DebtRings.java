/**
 * Debts of up to six people, netted: rings of debts are cut, balances are
 * settled by the fewest payments, and what would be is asked.
 *
 * The document's words (PEOPLE, DEBTS, RINGS, ..) mean here what they mean there.
 */
public final class DebtRings {
    public static final int NONE = -1, BAD = -2, STATE = -3, FULL = -4;
    public static final long NO = Long.MIN_VALUE;

    private static final int NOT_ANY = -5;
    private static final int NOTHING = -11, CAST = -12, PLACE = -13, SIZE = -14;
    private static final int FAULT_AT_START = -10;
    private static final int ROW_ENDED = 100;

    private static final int MOST_PEOPLE = 6, PAIRS = 36, SETS = 64;
    private static final int MOST_OWED = 999, MOST_AT_ONCE = 99;
    private static final int MOST_CUTS = 40, MOST_SEEN = 5, MOST_EVENTS = 8, MOST_BOOKED = 8;
    private static final int MOST_FITTING = 30, LIKELY_AMOUNTS = 10;
    private static final int MOST_SIGNS = 100, MOST_CLAUSES = 12;
    private static final int TAPES = 6, MOST_ITEMS = 60;

    private static final int FIRST = 0, HIGH = 1, DEEP = 2, AGREED = 3;
    // No RULE that a call may name: it passes over no RING, so that all are counted.
    private static final int EVERY = 4;
    private static final int OWES_NOBODY = 0, OWED_BY_NOBODY = 1, IS_CUT = 2, IS_SETTLED = 3;
    private static final int NO_SORT = -1, BYTES = 0, SHORTS = 1, INTS = 2, LONGS = 3, BOOLEANS = 4;

    private final Affairs now;
    private final Affairs kept;
    private boolean isKept;
    private final Debts supposed;
    private final Rings rings;
    private final Netting netting;
    private final Text text;
    private final Tape[] tapes;

    public DebtRings() {
        now = new Affairs();
        kept = new Affairs();
        isKept = false;
        supposed = new Debts();
        rings = new Rings();
        netting = new Netting();
        text = new Text();
        tapes = new Tape[TAPES];
        for (int t = 0; t < TAPES; t++) {
            tapes[t] = new Tape();
        }
    }

    // ---- people, debts

    public int person() {
        if (now.people >= MOST_PEOPLE) {
            return FULL;
        }
        now.people++;
        return now.people - 1;
    }

    public int owe(int i, int j, int n) {
        if (!isPair(i, j)) {
            return NONE;
        }
        if (n < 1 || n > MOST_AT_ONCE) {
            return BAD;
        }
        int then = now.debts.amount(i, j) + n;
        if (then > MOST_OWED) {
            return FULL;
        }
        now.debts.put(i, j, then);
        return then;
    }

    public int pay(int i, int j, int n) {
        if (!isPair(i, j)) {
            return NONE;
        }
        if (n < 1 || n > MOST_AT_ONCE) {
            return BAD;
        }
        int then = now.debts.amount(i, j) - n;
        if (then < 0) {
            return STATE;
        }
        now.debts.put(i, j, then);
        return then;
    }

    public int consent(int i, int j, boolean isSo) {
        if (!isPair(i, j)) {
            return NONE;
        }
        int before = asNumber(now.consents.isGiven(i, j));
        now.consents.put(i, j, isSo);
        return before;
    }

    public int of(int i, int j, int what) {
        if (!isPair(i, j)) {
            return NONE;
        }
        switch (what) {
            case 0:
                return now.debts.amount(i, j);
            case 1:
                return asNumber(now.consents.isGiven(i, j));
            case 2:
                return now.debts.placeOf(i, j);
            default:
                return NONE;
        }
    }

    public int debt(int k, int what) {
        return now.debts.at(k, what);
    }

    public int feed(int sign) {
        if (sign < 0 || sign > 127) {
            return BAD;
        }
        return text.add(sign);
    }

    public int read() {
        int fault = text.fault();
        int done = 0;
        int at = 0;
        for (int clause = 0; fault == NOT_ANY && clause < MOST_CLAUSES && at < text.size(); clause++) {
            done += asNumber(doClause(at));
            at = text.nextClause(at);
        }
        text.clear();
        return fault == NOT_ANY ? done : FAULT_AT_START - fault;
    }

    // ---- rings

    public int cut(int rule, int n) {
        if (!isRule(rule) || n < 0 || n > MOST_CUTS) {
            return BAD;
        }
        for (int cuts = 0; cuts < n; cuts++) {
            rings.search(now.debts, now.consents, rule);
            if (rings.size() == 0 || now.trail.isFull()) {
                return cuts;
            }
            rings.takeLeastFrom(now.debts);
            now.trail.add(rule, rings.size(), rings.least());
        }
        return n;
    }

    public int ring(int rule, int k) {
        if (!isRule(rule)) {
            return BAD;
        }
        rings.search(now.debts, now.consents, rule);
        if (rings.size() == 0) {
            return NOT_ANY;
        }
        if (k == -1) {
            return rings.size();
        }
        if (k == -2) {
            return rings.least();
        }
        return rings.personAt(k);
    }

    public int trail(int k, int what) {
        return now.trail.at(k, what);
    }

    public int forget() {
        int cuts = now.trail.size();
        now.trail.clear();
        return cuts;
    }

    // ---- balances, payments

    public long balance(int person) {
        if (!isPerson(person)) {
            return NO;
        }
        netting.weigh(now.debts);
        return netting.balanceOf(person);
    }

    public int group(int k) {
        netting.net(now.debts);
        return netting.groupAt(k);
    }

    public int payment(int k, int what) {
        netting.net(now.debts);
        return netting.payments.at(k, what);
    }

    public int willing(int k, int what) {
        netting.netWilling(now.debts, now.consents);
        return netting.payments.at(k, what);
    }

    public int settle() {
        int before = now.debts.size();
        return becomePayments(now.debts) ? before : STATE;
    }

    public int told(int what) {
        switch (what) {
            case 0:
                return now.people;
            case 1:
                return now.debts.size();
            case 2:
                rings.search(now.debts, now.consents, EVERY);
                return rings.found();
            case 3:
                return now.trail.size();
            case 4:
                return now.debts.total();
            case 5:
            case 6:
            case 7:
            case 8:
            case 9:
                return toldOfPayments(what);
            case 10:
            case 11:
                return toldOfWilling(what);
            default:
                return NONE;
        }
    }

    public int without(int person) {
        if (!isPerson(person)) {
            return NONE;
        }
        supposed.take(now.debts);
        supposed.clearOwedBy(person);
        supposed.clearOwedTo(person);
        return fewest(supposed);
    }

    // ---- seen, odds

    public int see(int i, int j, int n) {
        return addPayment(now.seen, i, j, n);
    }

    public int fits(int i, int j, int what) {
        if (!isPair(i, j) || what < 0 || what > 1) {
            return NONE;
        }
        int fitting = 0;
        int least = NOT_ANY;
        supposed.take(now.debts);
        for (int amount = 0; amount <= MOST_FITTING; amount++) {
            supposed.put(i, j, amount);
            netting.net(supposed);
            if (firstUnpaid(now.seen) == NOT_ANY) {
                fitting++;
                least = least == NOT_ANY ? amount : least;
            }
        }
        return what == 0 ? fitting : least;
    }

    public long odds(int i, int j, int part) {
        if (!isPair(i, j) || !isPart(part)) {
            return NO;
        }
        int taken = 0;
        supposed.take(now.debts);
        for (int amount = 0; amount < LIKELY_AMOUNTS; amount++) {
            supposed.put(i, j, amount);
            rings.search(supposed, now.consents, HIGH);
            taken += asNumber(rings.hasStep(i, j));
        }
        return inLowestTerms(taken, LIKELY_AMOUNTS, part);
    }

    public long mean(int part) {
        if (!isPart(part) || now.debts.size() == 0) {
            return NO;
        }
        return inLowestTerms(now.debts.total(), now.debts.size(), part);
    }

    // ---- events, books

    public int event(int what, int n) {
        if (what == -1) {
            now.events.clear();
            return 0;
        }
        switch (what) {
            case OWES_NOBODY:
            case OWED_BY_NOBODY:
                return isPerson(n) ? now.events.add(what, n, 0) : NONE;
            case IS_CUT:
                return isRule(n) ? now.events.add(what, n, 0) : BAD;
            case IS_SETTLED:
                return now.events.add(what, n, 0);
            default:
                return NONE;
        }
    }

    public int after(int what) {
        if (what < 0 || what > 2) {
            return NONE;
        }
        supposed.take(now.debts);
        for (int k = 0; k < now.events.size(); k++) {
            happen(now.events.at(k, 0), now.events.at(k, 1));
        }
        if (what == 0) {
            return supposed.total();
        }
        return what == 1 ? supposed.size() : fewest(supposed);
    }

    public int book(int i, int j, int n) {
        return addPayment(now.book, i, j, n);
    }

    public int looked() {
        netting.net(now.debts);
        return firstUnpaid(now.book);
    }

    // ---- judging, the image, tapes

    public int judge(int tape, int i) {
        Tape row = tapeAt(tape);
        if (row == null) {
            return NONE;
        }
        if (row.sort() != NO_SORT && row.sort() != LONGS) {
            return CAST;
        }
        netting.net(now.debts);
        for (int k = 0; k < netting.payments.size(); k++) {
            // The place is compared without adding to it, for i may be the greatest int.
            if (i < 0 || i > row.length() - 1 - k) {
                return ROW_ENDED + k;
            }
            if (row.at(i + k) != codeOfPayment(k)) {
                return k;
            }
        }
        return NOT_ANY;
    }

    public int image() {
        kept.take(now);
        isKept = true;
        return now.people;
    }

    public int undo() {
        if (!isKept) {
            return STATE;
        }
        now.take(kept);
        return now.people;
    }

    public int count(int what) {
        switch (what) {
            case 0:
                return now.seen.size();
            case 1:
                return now.events.size();
            case 2:
                return now.book.size();
            case 3:
                return text.size();
            default:
                return BAD;
        }
    }

    public int tape(int tape, int sort, int n) {
        Tape row = tapeAt(tape);
        if (row == null) {
            return NONE;
        }
        if (sort == NO_SORT) {
            row.become(NO_SORT, 0);
            return 1;
        }
        if (sort < BYTES || sort > BOOLEANS || n > MOST_ITEMS) {
            return BAD;
        }
        if (n < 0) {
            return SIZE;
        }
        row.become(sort, n);
        return 1;
    }

    public int item(int tape, int i, long v) {
        Tape row = tapeAt(tape);
        if (row == null) {
            return NONE;
        }
        if (row.sort() == NO_SORT) {
            return NOTHING;
        }
        if (!row.hasPlace(i)) {
            return PLACE;
        }
        row.put(i, v);
        return 1;
    }

    public long peek(int tape, int i) {
        Tape row = tapeAt(tape);
        if (row == null || !row.hasPlace(i)) {
            return NO;
        }
        return row.at(i);
    }

    public int shift(int tape, int i, int other, int j, int n) {
        Tape from = tapeAt(tape);
        Tape to = tapeAt(other);
        if (from == null || to == null) {
            return NONE;
        }
        if (from.sort() == NO_SORT || to.sort() == NO_SORT) {
            return NOTHING;
        }
        if (from.sort() != to.sort()) {
            return CAST;
        }
        if (!from.hasStretch(i, n) || !to.hasStretch(j, n)) {
            return PLACE;
        }
        to.takeStretch(j, from, i, n);
        return n;
    }

    // ---- what arguments are

    private boolean isPerson(int person) {
        return person >= 0 && person < now.people;
    }

    private boolean isPair(int i, int j) {
        return isPerson(i) && isPerson(j) && i != j;
    }

    private static boolean isRule(int rule) {
        return rule >= FIRST && rule <= AGREED;
    }

    private static boolean isPart(int part) {
        return part == 0 || part == 1;
    }

    private Tape tapeAt(int tape) {
        return tape >= 0 && tape < TAPES ? tapes[tape] : null;
    }

    private static int asNumber(boolean isSo) {
        return isSo ? 1 : 0;
    }

    // ---- steps that several calls share

    private boolean doClause(int at) {
        int one = text.digitAt(at + 1);
        int two = text.digitAt(at + 2);
        switch (text.signAt(at)) {
            case 'p':
                return person() >= 0;
            case 'o':
                return owe(one, two, text.amountAt(at + 3)) >= 0;
            case 'n':
                return consent(one, two, false) >= 0;
            case 'y':
                return consent(one, two, true) >= 0;
            case 'c':
                return cut(one, 1) == 1;
            default:
                return false;
        }
    }

    private int fewest(Debts debts) {
        netting.net(debts);
        return netting.payments.size();
    }

    private boolean becomePayments(Debts debts) {
        netting.net(debts);
        Rows payments = netting.payments;
        for (int k = 0; k < payments.size(); k++) {
            if (payments.at(k, 2) > MOST_OWED) {
                return false;
            }
        }
        debts.clear();
        for (int k = 0; k < payments.size(); k++) {
            debts.put(payments.at(k, 0), payments.at(k, 1), payments.at(k, 2));
        }
        return true;
    }

    private void happen(int what, int n) {
        switch (what) {
            case OWES_NOBODY:
                supposed.clearOwedBy(n);
                break;
            case OWED_BY_NOBODY:
                supposed.clearOwedTo(n);
                break;
            case IS_CUT:
                rings.search(supposed, now.consents, n);
                rings.takeLeastFrom(supposed);
                break;
            case IS_SETTLED:
                becomePayments(supposed);
                break;
            default:
                break;
        }
    }

    private int toldOfPayments(int what) {
        netting.net(now.debts);
        switch (what) {
            case 5:
                return netting.totalAbove();
            case 6:
                return Integer.bitCount(netting.open());
            case 7:
                return netting.groupCount();
            case 8:
                return netting.payments.size();
            default:
                return consentedPayments();
        }
    }

    private int consentedPayments() {
        Rows payments = netting.payments;
        int consented = 0;
        for (int k = 0; k < payments.size(); k++) {
            consented += asNumber(now.consents.isGiven(payments.at(k, 0), payments.at(k, 1)));
        }
        return consented;
    }

    private int toldOfWilling(int what) {
        netting.netWilling(now.debts, now.consents);
        return what == 10 ? netting.payments.size() : netting.leftAbove();
    }

    private int addPayment(Rows rows, int i, int j, int n) {
        if (i == -1) {
            rows.clear();
            return 0;
        }
        if (!isPair(i, j)) {
            return NONE;
        }
        if (n < 1 || n > MOST_OWED) {
            return BAD;
        }
        return rows.add(i, j, n);
    }

    private int firstUnpaid(Rows rows) {
        for (int k = 0; k < rows.size(); k++) {
            if (!netting.payments.has(rows.at(k, 0), rows.at(k, 1), rows.at(k, 2))) {
                return k;
            }
        }
        return NOT_ANY;
    }

    private long codeOfPayment(int k) {
        Rows payments = netting.payments;
        return 10000L * payments.at(k, 0) + 1000L * payments.at(k, 1) + payments.at(k, 2);
    }

    private static long inLowestTerms(int above, int below, int part) {
        int asked = part == 0 ? above : below;
        for (int divisor = below; divisor > 1; divisor--) {
            if (above % divisor == 0 && below % divisor == 0) {
                return asked / divisor;
            }
        }
        return asked;
    }

    private static boolean isCell(int i, int j) {
        return i >= 0 && i < MOST_PEOPLE && j >= 0 && j < MOST_PEOPLE;
    }

    /** Rows of three numbers each, told one by one. */
    private static final class Rows {
        private final int[] numbers;
        private final int room;
        private int size;

        Rows(int most) {
            room = Math.max(most, 0);
            numbers = new int[3 * room];
            size = 0;
        }

        int size() {
            return size;
        }

        boolean isFull() {
            return size >= room;
        }

        void clear() {
            size = 0;
        }

        int add(int first, int second, int third) {
            if (size >= room) {
                return FULL;
            }
            numbers[3 * size] = first;
            numbers[3 * size + 1] = second;
            numbers[3 * size + 2] = third;
            size++;
            return size;
        }

        int at(int k, int what) {
            if (k < 0 || k >= size || what < 0 || what > 2) {
                return NONE;
            }
            return numbers[3 * k + what];
        }

        boolean has(int first, int second, int third) {
            for (int k = 0; k < size; k++) {
                if (at(k, 0) == first && at(k, 1) == second && at(k, 2) == third) {
                    return true;
                }
            }
            return false;
        }

        void take(Rows other) {
            clear();
            for (int k = 0; k < other.size; k++) {
                add(other.at(k, 0), other.at(k, 1), other.at(k, 2));
            }
        }
    }

    /** What each one OWES each other one, and the order in which DEBTS became so. */
    private static final class Debts {
        private final int[] owed;
        private final int[] order;
        private int size;

        Debts() {
            owed = new int[PAIRS];
            order = new int[PAIRS];
            size = 0;
        }

        int size() {
            return size;
        }

        int amount(int i, int j) {
            return isCell(i, j) ? owed[i * MOST_PEOPLE + j] : 0;
        }

        void put(int i, int j, int amount) {
            if (!isCell(i, j)) {
                return;
            }
            int cell = i * MOST_PEOPLE + j;
            if (owed[cell] == 0 && amount > 0) {
                append(cell);
            } else if (owed[cell] > 0 && amount == 0) {
                drop(cell);
            }
            owed[cell] = amount;
        }

        private void append(int cell) {
            if (size < PAIRS) {
                order[size] = cell;
                size++;
            }
        }

        private void drop(int cell) {
            int stay = 0;
            for (int k = 0; k < size && k < PAIRS; k++) {
                if (order[k] != cell) {
                    order[stay] = order[k];
                    stay++;
                }
            }
            size = stay;
        }

        int placeOf(int i, int j) {
            for (int k = 0; k < size; k++) {
                if (at(k, 0) == i && at(k, 1) == j) {
                    return k;
                }
            }
            return NOT_ANY;
        }

        int at(int k, int what) {
            if (k < 0 || k >= size) {
                return NONE;
            }
            int i = order[k] / MOST_PEOPLE;
            int j = order[k] % MOST_PEOPLE;
            switch (what) {
                case 0:
                    return i;
                case 1:
                    return j;
                case 2:
                    return amount(i, j);
                default:
                    return NONE;
            }
        }

        int total() {
            int total = 0;
            for (int cell = 0; cell < PAIRS; cell++) {
                total += owed[cell];
            }
            return total;
        }

        void clear() {
            for (int cell = 0; cell < PAIRS; cell++) {
                owed[cell] = 0;
            }
            size = 0;
        }

        void clearOwedBy(int person) {
            for (int other = 0; other < MOST_PEOPLE; other++) {
                put(person, other, 0);
            }
        }

        void clearOwedTo(int person) {
            for (int other = 0; other < MOST_PEOPLE; other++) {
                put(other, person, 0);
            }
        }

        void take(Debts other) {
            for (int cell = 0; cell < PAIRS; cell++) {
                owed[cell] = other.owed[cell];
                order[cell] = other.order[cell];
            }
            size = other.size;
        }
    }

    /** Held as refusals, so that a new one is as it should be at first: all CONSENT to all. */
    private static final class Consents {
        private final boolean[] refused;

        Consents() {
            refused = new boolean[PAIRS];
        }

        boolean isGiven(int i, int j) {
            return isCell(i, j) && !refused[i * MOST_PEOPLE + j];
        }

        void put(int i, int j, boolean isSo) {
            if (isCell(i, j)) {
                refused[i * MOST_PEOPLE + j] = !isSo;
            }
        }

        void take(Consents other) {
            for (int cell = 0; cell < PAIRS; cell++) {
                refused[cell] = other.refused[cell];
            }
        }
    }

    /** All that THE IMAGE holds, and nothing else. */
    private static final class Affairs {
        int people;
        final Debts debts;
        final Consents consents;
        final Rows trail;
        final Rows seen;
        final Rows events;
        final Rows book;

        Affairs() {
            people = 0;
            debts = new Debts();
            consents = new Consents();
            trail = new Rows(MOST_CUTS);
            seen = new Rows(MOST_SEEN);
            events = new Rows(MOST_EVENTS);
            book = new Rows(MOST_BOOKED);
        }

        void take(Affairs other) {
            people = other.people;
            debts.take(other.debts);
            consents.take(other.consents);
            trail.take(other.trail);
            seen.take(other.seen);
            events.take(other.events);
            book.take(other.book);
        }
    }

    /** Walks over RINGS in their order, and keeps the one that a RULE takes. */
    private static final class Rings {
        private final int[] steps;
        private final int[] path;
        private final int[] taken;
        private int rule;
        private int found;
        private int size;
        private int least;

        Rings() {
            steps = new int[PAIRS];
            path = new int[MOST_PEOPLE];
            taken = new int[MOST_PEOPLE];
            rule = FIRST;
            found = 0;
            size = 0;
            least = 0;
        }

        /** How many RINGS were taken, each instead of the one ahead; by EVERY all that there are. */
        int found() {
            return found;
        }

        /** How many PEOPLE the taken RING has; 0, if none is taken. */
        int size() {
            return size;
        }

        int least() {
            return least;
        }

        int personAt(int k) {
            return k >= 0 && k < size && k < MOST_PEOPLE ? taken[k] : NONE;
        }

        private int personBehind(int k) {
            return personAt(k + 1 < size ? k + 1 : 0);
        }

        boolean hasStep(int i, int j) {
            for (int k = 0; k < size; k++) {
                if (personAt(k) == i && personBehind(k) == j) {
                    return true;
                }
            }
            return false;
        }

        void takeLeastFrom(Debts debts) {
            for (int k = 0; k < size; k++) {
                int i = personAt(k);
                int j = personBehind(k);
                debts.put(i, j, debts.amount(i, j) - least);
            }
        }

        void search(Debts debts, Consents consents, int newRule) {
            rule = newRule;
            found = 0;
            size = 0;
            least = 0;
            laySteps(debts, consents);
            for (int people = 2; people <= MOST_PEOPLE; people++) {
                for (int first = 0; first < MOST_PEOPLE; first++) {
                    path[0] = first;
                    extend(people, 1, MOST_OWED);
                }
            }
        }

        /** A step without CONSENT is none for AGREED, so that no RING over it is met. */
        private void laySteps(Debts debts, Consents consents) {
            for (int cell = 0; cell < PAIRS; cell++) {
                int i = cell / MOST_PEOPLE;
                int j = cell % MOST_PEOPLE;
                boolean isBarred = rule == AGREED && !consents.isGiven(i, j);
                steps[cell] = isBarred ? 0 : debts.amount(i, j);
            }
        }

        private int step(int i, int j) {
            return isCell(i, j) ? steps[i * MOST_PEOPLE + j] : 0;
        }

        /**
         * Goes on only to PEOPLE above the first one, as a RING is told from its least on, and
         * only as long as it can be taken still: what is lowest never rises on the way.
         */
        private void extend(int people, int depth, int lowest) {
            if (depth < 1 || depth > MOST_PEOPLE || !isBetter(people, lowest)) {
                return;
            }
            int last = path[depth - 1];
            if (depth >= people) {
                meet(people, Math.min(lowest, step(last, path[0])));
                return;
            }
            for (int person = path[0] + 1; person < MOST_PEOPLE && depth < MOST_PEOPLE; person++) {
                int amount = step(last, person);
                if (amount > 0 && !isOnPath(person, depth)) {
                    path[depth] = person;
                    extend(people, depth + 1, Math.min(lowest, amount));
                }
            }
        }

        private boolean isOnPath(int person, int depth) {
            for (int k = 0; k < depth && k < MOST_PEOPLE; k++) {
                if (path[k] == person) {
                    return true;
                }
            }
            return false;
        }

        private void meet(int people, int lowest) {
            if (lowest <= 0 || !isBetter(people, lowest)) {
                return;
            }
            found++;
            size = people;
            least = lowest;
            for (int k = 0; k < MOST_PEOPLE; k++) {
                taken[k] = path[k];
            }
        }

        /** Not if it is as good as the one taken ahead of it: of several the first is taken. */
        private boolean isBetter(int people, int lowest) {
            switch (rule) {
                case HIGH:
                    return lowest > least;
                case DEEP:
                    return lowest * people > least * size;
                case EVERY:
                    return true;
                default:
                    return size == 0;
            }
        }
    }

    /** BALANCES, GROUPS, and the payments of the last of net and netWilling. */
    private static final class Netting {
        private final int[] balances;
        private final int[] left;
        private final int[] sums;
        private final int[] most;
        private final int[] groups;
        private int groupCount;
        final Rows payments;

        Netting() {
            balances = new int[MOST_PEOPLE];
            left = new int[MOST_PEOPLE];
            sums = new int[SETS];
            most = new int[SETS];
            groups = new int[MOST_PEOPLE];
            groupCount = 0;
            payments = new Rows(MOST_PEOPLE);
        }

        int balanceOf(int person) {
            return person >= 0 && person < MOST_PEOPLE ? balances[person] : 0;
        }

        int groupCount() {
            return groupCount;
        }

        int groupAt(int k) {
            return k >= 0 && k < groupCount && k < MOST_PEOPLE ? groups[k] : NONE;
        }

        int open() {
            int set = 0;
            for (int person = 0; person < MOST_PEOPLE; person++) {
                if (balances[person] != 0) {
                    set |= 1 << person;
                }
            }
            return set;
        }

        int totalAbove() {
            return above(balances);
        }

        int leftAbove() {
            return above(left);
        }

        private static int above(int[] amounts) {
            int total = 0;
            for (int person = 0; person < amounts.length; person++) {
                total += Math.max(amounts[person], 0);
            }
            return total;
        }

        void net(Debts debts) {
            weigh(debts);
            addUpSets();
            countParts();
            partOpen();
            payments.clear();
            for (int k = 0; k < groupCount; k++) {
                payInGroup(groupAt(k));
            }
        }

        /** Payers one behind the other will do: nobody's BALANCE left rises above 0 later. */
        void netWilling(Debts debts, Consents consents) {
            weigh(debts);
            payments.clear();
            for (int payer = 0; payer < MOST_PEOPLE; payer++) {
                for (int payee = 0; payee < MOST_PEOPLE; payee++) {
                    if (consents.isGiven(payer, payee)) {
                        payWhatBothHave(payer, payee);
                    }
                }
            }
        }

        void weigh(Debts debts) {
            for (int person = 0; person < MOST_PEOPLE; person++) {
                int sum = 0;
                for (int other = 0; other < MOST_PEOPLE; other++) {
                    sum += debts.amount(other, person) - debts.amount(person, other);
                }
                balances[person] = sum;
                left[person] = sum;
            }
        }

        private void partOpen() {
            int rest = open();
            groupCount = 0;
            for (int k = 0; k < MOST_PEOPLE && rest != 0; k++) {
                int group = firstGroup(rest);
                groups[k] = group;
                groupCount = k + 1;
                rest &= ~group;
            }
        }

        private void addUpSets() {
            for (int set = 0; set < SETS; set++) {
                int sum = 0;
                for (int person = 0; person < MOST_PEOPLE; person++) {
                    if ((set >> person & 1) == 1) {
                        sum += balances[person];
                    }
                }
                sums[set] = sum;
            }
        }

        /** For each set that is 0 together: into how many GROUPS it can be parted at most. */
        private void countParts() {
            int open = open();
            most[0] = 0;
            for (int set = 1; set < SETS; set++) {
                most[set] = 0;
                if ((set & open) == set && sums[set] == 0) {
                    most[set] = partsOf(set);
                }
            }
        }

        private int partsOf(int set) {
            int parts = 0;
            for (int group = 1; group <= set && group < SETS; group++) {
                if (isGroupOfLeast(group, set)) {
                    parts = Math.max(parts, 1 + most[set & ~group]);
                }
            }
            return parts;
        }

        /** The GROUP of the least PERSON of a set by which most GROUPS come; the set, if none is less. */
        private int firstGroup(int set) {
            for (int group = 1; group < set && group < SETS; group++) {
                if (isGroupOfLeast(group, set) && 1 + most[set & ~group] == most[set]) {
                    return group;
                }
            }
            return set;
        }

        private boolean isGroupOfLeast(int group, int set) {
            int least = set & -set;
            return (group & set) == group && (group & least) != 0 && sums[group] == 0;
        }

        private void payInGroup(int group) {
            for (int payer = 0; payer < MOST_PEOPLE; payer++) {
                for (int payee = 0; payee < MOST_PEOPLE; payee++) {
                    if ((group >> payer & group >> payee & 1) == 1) {
                        payWhatBothHave(payer, payee);
                    }
                }
            }
        }

        private void payWhatBothHave(int payer, int payee) {
            int amount = Math.min(-left[payer], left[payee]);
            if (amount > 0) {
                left[payer] += amount;
                left[payee] -= amount;
                payments.add(payer, payee, amount);
            }
        }
    }

    /** THE TEXT, and where it is no set-up. */
    private static final class Text {
        private final byte[] signs;
        private int size;

        Text() {
            signs = new byte[MOST_SIGNS];
            size = 0;
        }

        int size() {
            return size;
        }

        void clear() {
            size = 0;
        }

        int add(int sign) {
            if (size >= MOST_SIGNS) {
                return FULL;
            }
            signs[size] = (byte) sign;
            size++;
            return size;
        }

        /** NONE behind the end, so that the end is a FAULT wherever a sign must stand. */
        int signAt(int place) {
            return place >= 0 && place < size && place < MOST_SIGNS ? signs[place] : NONE;
        }

        private boolean isDigit(int place) {
            int sign = signAt(place);
            return sign >= '0' && sign <= '9';
        }

        int digitAt(int place) {
            return isDigit(place) ? signAt(place) - '0' : NONE;
        }

        int amountAt(int place) {
            int first = digitAt(place);
            return isDigit(place + 1) ? 10 * first + digitAt(place + 1) : first;
        }

        int nextClause(int place) {
            for (int at = place; at < size; at++) {
                if (signAt(at) == ';') {
                    return at + 1;
                }
            }
            return size;
        }

        int fault() {
            int at = 0;
            for (int clause = 0; clause < MOST_CLAUSES; clause++) {
                int sign = signAt(at);
                int digits = digitsOf(sign);
                if (digits < 0) {
                    return at;
                }
                at++;
                for (int d = 0; d < digits; d++) {
                    if (!isDigit(at)) {
                        return at;
                    }
                    at++;
                }
                if (sign == 'o' && isDigit(at)) {
                    at++;
                }
                if (at == size) {
                    return NOT_ANY;
                }
                if (signAt(at) != ';') {
                    return at;
                }
                at++;
            }
            // The last sign gone over would begin one CLAUSE too many.
            return at - 1;
        }

        /** How many digits must follow a CLAUSE's first sign; NONE, if no CLAUSE begins so. */
        private static int digitsOf(int sign) {
            switch (sign) {
                case 'p':
                    return 0;
                case 'c':
                    return 1;
                case 'n':
                case 'y':
                    return 2;
                case 'o':
                    return 3;
                default:
                    return NONE;
            }
        }
    }

    /** A row whose items are kept as longs, cut to what an item of its sort can hold. */
    private static final class Tape {
        private int sort;
        private int length;
        private final long[] items;

        Tape() {
            sort = NO_SORT;
            length = 0;
            items = new long[MOST_ITEMS];
        }

        int sort() {
            return sort;
        }

        int length() {
            return length;
        }

        void become(int newSort, int newLength) {
            sort = newSort;
            length = newLength;
            for (int place = 0; place < MOST_ITEMS; place++) {
                items[place] = 0;
            }
        }

        boolean hasPlace(int place) {
            return place >= 0 && place < length && place < MOST_ITEMS;
        }

        boolean hasStretch(int place, int n) {
            return n >= 0 && n <= length && place >= 0 && place <= length - n;
        }

        long at(int place) {
            return hasPlace(place) ? items[place] : 0;
        }

        void put(int place, long v) {
            if (hasPlace(place)) {
                items[place] = asItem(v);
            }
        }

        private long asItem(long v) {
            switch (sort) {
                case BYTES:
                    return (byte) v;
                case SHORTS:
                    return (short) v;
                case INTS:
                    return (int) v;
                case BOOLEANS:
                    return v != 0 ? 1 : 0;
                default:
                    return v;
            }
        }

        void takeStretch(int to, Tape other, int from, int n) {
            if (hasStretch(to, n) && other.hasStretch(from, n)) {
                System.arraycopy(other.items, from, items, to, n);
            }
        }
    }
}
