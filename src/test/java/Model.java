import java.lang.reflect.Array;
import java.util.ArrayList;
import java.util.Arrays;
import java.util.Comparator;
import java.util.LinkedHashMap;
import java.util.List;
import java.util.Map;
import java.util.TreeSet;
import java.util.regex.Matcher;
import java.util.regex.Pattern;

/**
 * The document once more, written as differently as can be: rings come from all orders of all
 * sets of people, groups from all ways to part the open ones, tapes are real arrays whose
 * exceptions are caught, and the fault of a text is looked for by a regular expression.
 */
final class Model {
    static final long NO = Long.MIN_VALUE;
    private static final String CLAUSE = "(?:p|o[0-9][0-9][0-9]{1,2}|[ny][0-9][0-9]|c[0-9])";
    private static final Pattern SETUP = Pattern.compile(CLAUSE + "(?:;" + CLAUSE + "){0,11}");
    private static final List<List<Integer>> ALL_RINGS = allRings();

    /** All that the image holds. */
    private static final class Held {
        int people = 0;
        Map<List<Integer>, Integer> debts = new LinkedHashMap<>();
        TreeSet<Integer> refusals = new TreeSet<>();
        List<int[]> trail = new ArrayList<>();
        List<int[]> seen = new ArrayList<>();
        List<int[]> events = new ArrayList<>();
        List<int[]> book = new ArrayList<>();

        Held copy() {
            Held h = new Held();
            h.people = people;
            h.debts = new LinkedHashMap<>(debts);
            h.refusals = new TreeSet<>(refusals);
            h.trail = new ArrayList<>(trail);
            h.seen = new ArrayList<>(seen);
            h.events = new ArrayList<>(events);
            h.book = new ArrayList<>(book);
            return h;
        }
    }

    private Held h = new Held();
    private Held image = null;
    private final StringBuilder text = new StringBuilder();
    private final Object[] tapes = new Object[6];

    // ---- people, debts

    int person() {
        return h.people == 6 ? -4 : h.people++;
    }

    int owe(int i, int j, int n) {
        if (noPair(i, j)) {
            return -1;
        }
        if (n < 1 || n > 99) {
            return -2;
        }
        return owes(h.debts, i, j) + n > 999 ? -4 : set(h.debts, i, j, owes(h.debts, i, j) + n);
    }

    int pay(int i, int j, int n) {
        if (noPair(i, j)) {
            return -1;
        }
        if (n < 1 || n > 99) {
            return -2;
        }
        return owes(h.debts, i, j) < n ? -3 : set(h.debts, i, j, owes(h.debts, i, j) - n);
    }

    int consent(int i, int j, boolean isSo) {
        if (noPair(i, j)) {
            return -1;
        }
        int was = consents(i, j) ? 1 : 0;
        if (isSo) {
            h.refusals.remove(10 * i + j);
        } else {
            h.refusals.add(10 * i + j);
        }
        return was;
    }

    int of(int i, int j, int what) {
        if (noPair(i, j) || what < 0 || what > 2) {
            return -1;
        }
        if (what == 0) {
            return owes(h.debts, i, j);
        }
        if (what == 1) {
            return consents(i, j) ? 1 : 0;
        }
        int place = new ArrayList<>(h.debts.keySet()).indexOf(List.of(i, j));
        return place < 0 ? -5 : place;
    }

    int debt(int k, int what) {
        if (k < 0 || k >= h.debts.size() || what < 0 || what > 2) {
            return -1;
        }
        List<Integer> pair = new ArrayList<>(h.debts.keySet()).get(k);
        return what == 2 ? h.debts.get(pair) : pair.get(what);
    }

    int feed(int sign) {
        if (sign < 0 || sign > 127) {
            return -2;
        }
        if (text.length() == 100) {
            return -4;
        }
        return text.append((char) sign).length();
    }

    int read() {
        String all = text.toString();
        text.setLength(0);
        if (!SETUP.matcher(all).matches()) {
            return -10 - fault(all);
        }
        int done = 0;
        for (String clause : all.split(";")) {
            done += isDone(clause) ? 1 : 0;
        }
        return done;
    }

    private boolean isDone(String clause) {
        int[] d = new int[3];
        for (int k = 1; k < clause.length() && k < 3; k++) {
            d[k] = clause.charAt(k) - '0';
        }
        char kind = clause.charAt(0);
        if (kind == 'p') {
            return person() != -4;
        }
        if (kind == 'o') {
            return owe(d[1], d[2], Integer.parseInt(clause.substring(3))) > 0;
        }
        if (kind == 'c') {
            return cut(d[1], 1) == 1;
        }
        return consent(d[1], d[2], kind == 'y') >= 0;
    }

    private static int fault(String all) {
        for (int k = 0; k < all.length(); k++) {
            Matcher m = SETUP.matcher(all.substring(0, k + 1));
            if (!m.matches() && !m.hitEnd()) {
                return k;
            }
        }
        return all.length();
    }

    // ---- rings

    int cut(int rule, int n) {
        if (rule < 0 || rule > 3 || n < 0 || n > 40) {
            return -2;
        }
        int cuts = 0;
        while (cuts < n && h.trail.size() < 40) {
            List<Integer> ring = taken(h.debts, rule);
            if (ring == null) {
                break;
            }
            h.trail.add(new int[] {rule, ring.size(), least(h.debts, ring)});
            cutRing(h.debts, ring);
            cuts++;
        }
        return cuts;
    }

    int ring(int rule, int k) {
        if (rule < 0 || rule > 3) {
            return -2;
        }
        List<Integer> ring = taken(h.debts, rule);
        if (ring == null) {
            return -5;
        }
        if (k == -1) {
            return ring.size();
        }
        if (k == -2) {
            return least(h.debts, ring);
        }
        return k < 0 || k >= ring.size() ? -1 : ring.get(k);
    }

    int trail(int k, int what) {
        return cell(h.trail, k, what);
    }

    int forget() {
        int had = h.trail.size();
        h.trail.clear();
        return had;
    }

    // ---- balances, payments

    long balance(int person) {
        return noPerson(person) ? NO : balances(h.debts)[person];
    }

    int group(int k) {
        List<Integer> groups = groups(balances(h.debts));
        return k < 0 || k >= groups.size() ? -1 : groups.get(k);
    }

    int payment(int k, int what) {
        return cell(payments(h.debts), k, what);
    }

    int willing(int k, int what) {
        return cell(willingPayments(balances(h.debts)), k, what);
    }

    int settle() {
        int had = h.debts.size();
        return becomePayments(h.debts) ? had : -3;
    }

    int told(int what) {
        int[] b = balances(h.debts);
        switch (what) {
            case 0: return h.people;
            case 1: return h.debts.size();
            case 2: return (int) ALL_RINGS.stream().filter(r -> least(h.debts, r) > 0).count();
            case 3: return h.trail.size();
            case 4: return total(h.debts);
            case 5: return Arrays.stream(b).filter(x -> x > 0).sum();
            case 6: return (int) Arrays.stream(b).filter(x -> x != 0).count();
            case 7: return groups(b).size();
            case 8: return payments(h.debts).size();
            case 9: return (int) payments(h.debts).stream().filter(p -> consents(p[0], p[1])).count();
            case 10: return willingPayments(b).size();
            case 11:
                willingPayments(b);
                return Arrays.stream(b).filter(x -> x > 0).sum();
            default: return -1;
        }
    }

    int without(int person) {
        if (noPerson(person)) {
            return -1;
        }
        Map<List<Integer>, Integer> debts = new LinkedHashMap<>(h.debts);
        debts.keySet().removeIf(pair -> pair.contains(person));
        return payments(debts).size();
    }

    // ---- seen, odds

    int see(int i, int j, int n) {
        return addRow(h.seen, 5, i, j, n);
    }

    int fits(int i, int j, int what) {
        if (noPair(i, j) || what < 0 || what > 1) {
            return -1;
        }
        List<Integer> fitting = new ArrayList<>();
        for (int amount = 0; amount <= 30; amount++) {
            Map<List<Integer>, Integer> debts = new LinkedHashMap<>(h.debts);
            set(debts, i, j, amount);
            if (firstMissing(h.seen, payments(debts)) < 0) {
                fitting.add(amount);
            }
        }
        if (what == 0) {
            return fitting.size();
        }
        return fitting.isEmpty() ? -5 : fitting.get(0);
    }

    long odds(int i, int j, int part) {
        if (noPair(i, j) || part < 0 || part > 1) {
            return NO;
        }
        int has = 0;
        for (int amount = 0; amount <= 9; amount++) {
            Map<List<Integer>, Integer> debts = new LinkedHashMap<>(h.debts);
            set(debts, i, j, amount);
            List<Integer> ring = taken(debts, 1);
            if (ring != null && ring.contains(i)) {
                int behind = (ring.indexOf(i) + 1) % ring.size();
                has += ring.get(behind) == j ? 1 : 0;
            }
        }
        return lowest(has, 10, part);
    }

    long mean(int part) {
        if (h.debts.isEmpty() || part < 0 || part > 1) {
            return NO;
        }
        return lowest(total(h.debts), h.debts.size(), part);
    }

    // ---- events, books

    int event(int what, int n) {
        if (what == -1) {
            h.events.clear();
            return 0;
        }
        if (what < 0 || what > 3 || (what < 2 && noPerson(n))) {
            return -1;
        }
        if (what == 2 && (n < 0 || n > 3)) {
            return -2;
        }
        if (h.events.size() == 8) {
            return -4;
        }
        h.events.add(new int[] {what, n});
        return h.events.size();
    }

    int after(int what) {
        if (what < 0 || what > 2) {
            return -1;
        }
        Map<List<Integer>, Integer> debts = new LinkedHashMap<>(h.debts);
        for (int[] e : h.events) {
            if (e[0] == 0) {
                debts.keySet().removeIf(pair -> pair.get(0) == e[1]);
            } else if (e[0] == 1) {
                debts.keySet().removeIf(pair -> pair.get(1) == e[1]);
            } else if (e[0] == 2) {
                List<Integer> ring = taken(debts, e[1]);
                if (ring != null) {
                    cutRing(debts, ring);
                }
            } else {
                becomePayments(debts);
            }
        }
        return what == 0 ? total(debts) : what == 1 ? debts.size() : payments(debts).size();
    }

    int book(int i, int j, int n) {
        return addRow(h.book, 8, i, j, n);
    }

    int looked() {
        int row = firstMissing(h.book, payments(h.debts));
        return row < 0 ? -5 : row;
    }

    // ---- judging, the image, tapes

    int judge(int tape, int i) {
        if (tape < 0 || tape > 5) {
            return -1;
        }
        if (tapes[tape] != null && !(tapes[tape] instanceof long[])) {
            return -12;
        }
        List<int[]> payments = payments(h.debts);
        if (payments.isEmpty()) {
            return -5;
        }
        int looked = 0;
        try {
            long[] row = (long[]) tapes[tape];
            for (int[] p : payments) {
                if (row[Math.toIntExact((long) i + looked)] != p[0] * 10000L + p[1] * 1000L + p[2]) {
                    return looked;
                }
                looked++;
            }
            return -5;
        } catch (NullPointerException | ArithmeticException | ArrayIndexOutOfBoundsException e) {
            return 100 + looked;
        }
    }

    int image() {
        image = h.copy();
        return h.people;
    }

    int undo() {
        if (image == null) {
            return -3;
        }
        h = image.copy();
        return h.people;
    }

    int count(int what) {
        int[] counts = {h.seen.size(), h.events.size(), h.book.size(), text.length()};
        return what < 0 || what > 3 ? -2 : counts[what];
    }

    int tape(int tape, int sort, int n) {
        if (tape < 0 || tape > 5) {
            return -1;
        }
        if (sort == -1) {
            tapes[tape] = null;
            return 1;
        }
        Class<?>[] sorts = {byte.class, short.class, int.class, long.class, boolean.class};
        if (sort < 0 || sort > 4 || n > 60) {
            return -2;
        }
        try {
            tapes[tape] = Array.newInstance(sorts[sort], n);
            return 1;
        } catch (NegativeArraySizeException e) {
            return -14;
        }
    }

    int item(int tape, int i, long v) {
        if (tape < 0 || tape > 5) {
            return -1;
        }
        Object row = tapes[tape];
        try {
            if (row instanceof byte[]) {
                ((byte[]) row)[i] = (byte) v;
            } else if (row instanceof short[]) {
                ((short[]) row)[i] = (short) v;
            } else if (row instanceof int[]) {
                ((int[]) row)[i] = (int) v;
            } else if (row instanceof boolean[]) {
                ((boolean[]) row)[i] = v != 0;
            } else {
                ((long[]) row)[i] = v;
            }
            return 1;
        } catch (NullPointerException e) {
            return -11;
        } catch (ArrayIndexOutOfBoundsException e) {
            return -13;
        }
    }

    long peek(int tape, int i) {
        try {
            Object row = tapes[tape];
            return row instanceof boolean[] ? (((boolean[]) row)[i] ? 1 : 0) : Array.getLong(row, i);
        } catch (NullPointerException | ArrayIndexOutOfBoundsException e) {
            return NO;
        }
    }

    int shift(int tape, int i, int other, int j, int n) {
        if (tape < 0 || tape > 5 || other < 0 || other > 5) {
            return -1;
        }
        try {
            System.arraycopy(tapes[tape], i, tapes[other], j, n);
            return n;
        } catch (NullPointerException e) {
            return -11;
        } catch (ArrayStoreException e) {
            return -12;
        } catch (IndexOutOfBoundsException e) {
            return -13;
        }
    }

    // ---- the terms

    private boolean noPerson(int p) {
        return p < 0 || p >= h.people;
    }

    private boolean noPair(int i, int j) {
        return noPerson(i) || noPerson(j) || i == j;
    }

    private boolean consents(int i, int j) {
        return !h.refusals.contains(10 * i + j);
    }

    private static int owes(Map<List<Integer>, Integer> debts, int i, int j) {
        return debts.getOrDefault(List.of(i, j), 0);
    }

    private static int set(Map<List<Integer>, Integer> debts, int i, int j, int amount) {
        if (amount == 0) {
            debts.remove(List.of(i, j));
        } else {
            debts.put(List.of(i, j), amount);
        }
        return amount;
    }

    private static int total(Map<List<Integer>, Integer> debts) {
        return debts.values().stream().mapToInt(x -> x).sum();
    }

    private static int cell(List<int[]> rows, int k, int what) {
        return k < 0 || k >= rows.size() || what < 0 || what > 2 ? -1 : rows.get(k)[what];
    }

    private static long lowest(int above, int below, int part) {
        int a = above;
        int b = below;
        while (a != 0) {
            int rest = b % a;
            b = a;
            a = rest;
        }
        return (part == 0 ? above : below) / b;
    }

    private int addRow(List<int[]> rows, int most, int i, int j, int n) {
        if (i == -1) {
            rows.clear();
            return 0;
        }
        if (noPair(i, j)) {
            return -1;
        }
        if (n < 1 || n > 999) {
            return -2;
        }
        if (rows.size() == most) {
            return -4;
        }
        rows.add(new int[] {i, j, n});
        return rows.size();
    }

    private static int firstMissing(List<int[]> rows, List<int[]> payments) {
        for (int k = 0; k < rows.size(); k++) {
            int[] row = rows.get(k);
            if (payments.stream().noneMatch(p -> Arrays.equals(p, row))) {
                return k;
            }
        }
        return -1;
    }

    private static List<List<Integer>> allRings() {
        List<List<Integer>> rings = new ArrayList<>();
        addOrders(new ArrayList<>(), rings);
        rings.sort(Comparator.comparingInt((List<Integer> r) -> r.size()).thenComparing(Object::toString));
        return rings;
    }

    private static void addOrders(List<Integer> order, List<List<Integer>> rings) {
        if (order.size() > 1 && order.stream().allMatch(p -> p >= order.get(0))) {
            rings.add(new ArrayList<>(order));
        }
        for (int p = 0; p < 6; p++) {
            if (!order.contains(p)) {
                order.add(p);
                addOrders(order, rings);
                order.remove(order.size() - 1);
            }
        }
    }

    /** 0, if it is no ring by these debts. */
    private static int least(Map<List<Integer>, Integer> debts, List<Integer> ring) {
        int least = 1000;
        for (int k = 0; k < ring.size(); k++) {
            least = Math.min(least, owes(debts, ring.get(k), ring.get((k + 1) % ring.size())));
        }
        return least;
    }

    private List<Integer> taken(Map<List<Integer>, Integer> debts, int rule) {
        List<List<Integer>> rings = new ArrayList<>(ALL_RINGS);
        rings.removeIf(r -> least(debts, r) == 0 || (rule == 3 && !isAgreed(r)));
        if (rule == 1) {
            rings.sort(Comparator.comparingInt((List<Integer> r) -> -least(debts, r)));
        } else if (rule == 2) {
            rings.sort(Comparator.comparingInt((List<Integer> r) -> -least(debts, r) * r.size()));
        }
        return rings.isEmpty() ? null : rings.get(0);
    }

    private boolean isAgreed(List<Integer> ring) {
        for (int k = 0; k < ring.size(); k++) {
            if (!consents(ring.get(k), ring.get((k + 1) % ring.size()))) {
                return false;
            }
        }
        return true;
    }

    private static void cutRing(Map<List<Integer>, Integer> debts, List<Integer> ring) {
        int least = least(debts, ring);
        for (int k = 0; k < ring.size(); k++) {
            int i = ring.get(k);
            int j = ring.get((k + 1) % ring.size());
            set(debts, i, j, owes(debts, i, j) - least);
        }
    }

    private static int[] balances(Map<List<Integer>, Integer> debts) {
        int[] b = new int[6];
        debts.forEach((pair, amount) -> {
            b[pair.get(0)] -= amount;
            b[pair.get(1)] += amount;
        });
        return b;
    }

    private static List<Integer> groups(int[] b) {
        List<List<Integer>> ways = new ArrayList<>();
        part(b, 0, new ArrayList<>(), ways);
        ways.sort((v, w) -> v.size() != w.size() ? w.size() - v.size() : compareBits(v, w));
        return ways.get(0);
    }

    private static int compareBits(List<Integer> v, List<Integer> w) {
        for (int k = 0; k < v.size(); k++) {
            if (!v.get(k).equals(w.get(k))) {
                return v.get(k) - w.get(k);
            }
        }
        return 0;
    }

    /** All ways to part the open ones, whatever their sums; kept are those whose groups are 0 each. */
    private static void part(int[] b, int person, List<Integer> way, List<List<Integer>> ways) {
        if (person == 6) {
            if (way.stream().allMatch(g -> sum(b, g) == 0)) {
                ways.add(new ArrayList<>(way));
            }
            return;
        }
        if (b[person] == 0) {
            part(b, person + 1, way, ways);
            return;
        }
        for (int k = 0; k < way.size(); k++) {
            way.set(k, way.get(k) + (1 << person));
            part(b, person + 1, way, ways);
            way.set(k, way.get(k) - (1 << person));
        }
        way.add(1 << person);
        part(b, person + 1, way, ways);
        way.remove(way.size() - 1);
    }

    private static int sum(int[] b, int group) {
        int sum = 0;
        for (int p = 0; p < 6; p++) {
            sum += (group >> p) % 2 * b[p];
        }
        return sum;
    }

    private static List<int[]> payments(Map<List<Integer>, Integer> debts) {
        int[] left = balances(debts);
        List<int[]> payments = new ArrayList<>();
        for (int group : groups(left)) {
            while (true) {
                int payer = 0;
                while (payer < 6 && !((group >> payer) % 2 == 1 && left[payer] < 0)) {
                    payer++;
                }
                if (payer == 6) {
                    break;
                }
                int payee = 0;
                while (!((group >> payee) % 2 == 1 && left[payee] > 0)) {
                    payee++;
                }
                transfer(left, payer, payee, payments);
            }
        }
        return payments;
    }

    /** What is given is left behind them. */
    private List<int[]> willingPayments(int[] left) {
        List<int[]> payments = new ArrayList<>();
        int[] pair = firstWilling(left);
        while (pair != null) {
            transfer(left, pair[0], pair[1], payments);
            pair = firstWilling(left);
        }
        return payments;
    }

    private int[] firstWilling(int[] left) {
        for (int payer = 0; payer < 6; payer++) {
            for (int payee = 0; payee < 6; payee++) {
                if (left[payer] < 0 && left[payee] > 0 && consents(payer, payee)) {
                    return new int[] {payer, payee};
                }
            }
        }
        return null;
    }

    private static void transfer(int[] left, int payer, int payee, List<int[]> payments) {
        int amount = Math.min(Math.abs(left[payer]), Math.abs(left[payee]));
        left[payer] += amount;
        left[payee] -= amount;
        payments.add(new int[] {payer, payee, amount});
    }

    private static boolean becomePayments(Map<List<Integer>, Integer> debts) {
        List<int[]> payments = payments(debts);
        if (payments.stream().anyMatch(p -> p[2] > 999)) {
            return false;
        }
        debts.clear();
        payments.forEach(p -> debts.put(List.of(p[0], p[1]), p[2]));
        return true;
    }
}
