import java.util.ArrayList;
import java.util.Collections;
import java.util.List;
import java.util.TreeSet;
import java.util.function.ToLongFunction;

/**
 * The document once more, written without a thought for room or speed: sets are counted one by one,
 * plans are compared with all others. ModelTest holds the program against it.
 */
final class Model {
    static final class House {
        TreeSet<Integer> dates = new TreeSet<>();
        int purse;
        int friends;
        boolean gone;

        House copy() {
            House h = new House();
            h.dates = new TreeSet<>(dates);
            h.purse = purse;
            h.friends = friends;
            h.gone = gone;
            return h;
        }
    }

    static final class Town {
        List<House> houses = new ArrayList<>();
        int day;
        int x = 131;
        List<int[]> book = new ArrayList<>();

        Town copy() {
            Town t = new Town();
            for (House h : houses) {
                t.houses.add(h.copy());
            }
            t.day = day;
            t.x = x;
            t.book.addAll(book);
            return t;
        }
    }

    static final class Script {
        ToLongFunction<long[]> earns;
        ToLongFunction<long[]> loses;
        ToLongFunction<long[]> lets;
        List<String[]> clauses = new ArrayList<>();
    }

    static final class All {
        Town town = new Town();
        List<Town> steps = new ArrayList<>();
        List<Script> texts = new ArrayList<>();
        int ruling = -1;
        List<int[]> seen = new ArrayList<>();
        List<int[]> gossip = new ArrayList<>();

        All copy() {
            All a = new All();
            a.town = town.copy();
            for (Town t : steps) {
                a.steps.add(t.copy());
            }
            a.texts.addAll(texts);
            a.ruling = ruling;
            a.seen.addAll(seen);
            a.gossip.addAll(gossip);
            return a;
        }
    }

    All all = new All();
    All kept = new All();
    String tape = "";
    int fault = -1;
    int place = -1;

    // ---- helpers

    private Town t() {
        return all.town;
    }

    private House h(int i) {
        return i >= 0 && i < t().houses.size() ? t().houses.get(i) : null;
    }

    private House here(int i) {
        House h = h(i);
        return h == null || h.gone ? null : h;
    }

    private static int bits(Iterable<Integer> set) {
        int bits = 0;
        for (int i : set) {
            bits |= 1 << i;
        }
        return bits;
    }

    private static boolean in(long n, long least, long most) {
        return least <= n && n <= most;
    }

    private void step() {
        all.steps.add(t().copy());
        if (all.steps.size() > 30) {
            all.steps.remove(0);
        }
    }

    private Script rule() {
        return all.ruling < 0 ? null : all.texts.get(all.ruling);
    }

    private static boolean isOpen(Town t, int i, int date) {
        return in(i, 0, t.houses.size() - 1) && !t.houses.get(i).gone && !t.houses.get(i).dates.contains(date);
    }

    private static int openOn(Town t, int date) {
        int many = 0;
        for (int i = 0; i < t.houses.size(); i++) {
            many += isOpen(t, i, date) ? 1 : 0;
        }
        return many;
    }

    private static int beside(Town t, int i, int date) {
        return (isOpen(t, i - 1, date) ? 1 : 0) + (isOpen(t, i + 1, date) ? 1 : 0);
    }

    private static long[] names(Town t, int i, int day) {
        House h = t.houses.get(i);
        int date = day % 20;
        return new long[] {day, date, i, h.purse, h.friends, h.dates.size(), openOn(t, date), beside(t, i, date)};
    }

    private static int earns(Script s, Town t, int i, int day) {
        if (s == null || s.earns == null) {
            return 1 + beside(t, i, day % 20);
        }
        return (int) Math.max(0, Math.min(99, s.earns.applyAsLong(names(t, i, day))));
    }

    private static int loses(Script s, Town t, int i) {
        if (s == null || s.loses == null) {
            return 2;
        }
        return (int) Math.max(0, Math.min(99, s.loses.applyAsLong(names(t, i, t.day))));
    }

    private static boolean lets(Script s, Town t, int i) {
        if (s == null || s.lets == null) {
            return t.houses.get(i).friends < 50;
        }
        return s.lets.applyAsLong(names(t, i, t.day)) != 0;
    }

    private static boolean pass(Script s, Town t) {
        if (t.day == 9999) {
            return false;
        }
        for (int i = 0; i < t.houses.size(); i++) {
            House h = t.houses.get(i);
            if (h.gone) {
                continue;
            }
            if (isOpen(t, i, t.day % 20)) {
                h.purse = Math.min(9999, h.purse + earns(s, t, i, t.day));
            } else {
                h.purse = Math.max(0, h.purse - loses(s, t, i));
            }
        }
        t.day++;
        return true;
    }

    private Town later(int n, Script s) {
        Town t = t().copy();
        for (int i = 0; i < n; i++) {
            pass(s, t);
        }
        return t;
    }

    // ---- promises 2 to 7

    int house(int a, int b, int c, int purse, int friends) {
        House h = new House();
        int told = 0;
        for (int d : new int[] {a, b, c}) {
            if (d == -1) {
                continue;
            }
            if (!in(d, 0, 19)) {
                return -1;
            }
            told++;
            h.dates.add(d);
        }
        if (h.dates.size() != told || !in(purse, 0, 9999) || !in(friends, 0, 99) || t().houses.size() == 7) {
            return -1;
        }
        h.purse = purse;
        h.friends = friends;
        t().houses.add(h);
        return t().houses.size() - 1;
    }

    int feed(int... five) {
        if (tape.length() + 20 > 300) {
            return -1;
        }
        StringBuilder b = new StringBuilder(tape);
        for (int i : five) {
            for (int s = 24; s >= 0; s -= 8) {
                b.append((char) (i >>> s & 255));
            }
        }
        tape = b.toString();
        return tape.length();
    }

    int end(int n) {
        if (!in(n, 0, tape.length())) {
            return -1;
        }
        tape = tape.substring(0, n);
        return n;
    }

    int text() {
        if (all.texts.size() == 4) {
            return -1;
        }
        ModelReader r = new ModelReader(tape);
        tape = "";
        try {
            Script s = r.script();
            fault = 0;
            place = -1;
            all.texts.add(s);
            return all.texts.size() - 1;
        } catch (ModelReader.Fault f) {
            fault = f.what;
            place = f.where;
            return -1;
        }
    }

    int fault(int what) {
        return what == 0 ? fault : what == 1 ? place : -1;
    }

    boolean by(int text) {
        if (!in(text, -1, all.texts.size() - 1)) {
            return false;
        }
        all.ruling = text;
        return true;
    }

    // ---- promises 8 to 15

    private boolean doKnock(int i) {
        House h = here(i);
        boolean shut = h.dates.contains(t().day % 20);
        t().book.add(new int[] {t().day, i, shut ? 1 : 0});
        if (t().book.size() > 40) {
            t().book.remove(0);
        }
        if (shut) {
            h.friends = Math.max(0, h.friends - 1);
        } else if (lets(rule(), t(), i)) {
            h.friends = Math.min(99, h.friends + 1);
        }
        return shut;
    }

    int knock(int i) {
        if (here(i) == null) {
            return -1;
        }
        step();
        return doKnock(i) ? 1 : 0;
    }

    int marry(int i, int j) {
        House a = here(i);
        House b = here(j);
        if (a == null || b == null || i == j) {
            return -1;
        }
        TreeSet<Integer> dates = new TreeSet<>(a.dates);
        dates.retainAll(b.dates);
        if (dates.isEmpty()) {
            dates.addAll(a.dates);
            dates.addAll(b.dates);
            if (dates.size() > 3) {
                return -1;
            }
        }
        step();
        b.dates = dates;
        b.purse = Math.min(9999, a.purse + b.purse);
        b.friends = Math.min(99, a.friends + b.friends);
        a.gone = true;
        return bits(dates);
    }

    private int draw() {
        int x = t().x;
        t().x = (x * 359 + 239) % 30431;
        return x;
    }

    private boolean mayHat(int i) {
        return here(i) != null && here(i).dates.size() < 3;
    }

    private int doHat(int i) {
        for (int n = 0; n < 20; n++) {
            int d = draw() % 20;
            if (here(i).dates.add(d)) {
                return d;
            }
        }
        return -1;
    }

    int hat(int i) {
        if (!mayHat(i)) {
            return -1;
        }
        step();
        return doHat(i);
    }

    boolean forget(int date, int i) {
        if (here(i) == null || !here(i).dates.contains(date)) {
            return false;
        }
        step();
        here(i).dates.remove(date);
        return true;
    }

    int day(int n) {
        if (!in(n, 1, 60) || t().day + n > 9999) {
            return -1;
        }
        for (int i = 0; i < n; i++) {
            step();
            pass(rule(), t());
        }
        return t().day % 20;
    }

    int played(int text) {
        if (!in(text, 0, all.texts.size() - 1)) {
            return -2;
        }
        List<String[]> clauses = all.texts.get(text).clauses;
        for (int i = 0; i < clauses.size(); i++) {
            if (!done(clauses.get(i))) {
                return i;
            }
        }
        return -1;
    }

    private boolean done(String[] c) {
        int a = c.length > 1 ? Integer.parseInt(c[1]) : 0;
        int b = c.length > 2 ? Integer.parseInt(c[2]) : 0;
        switch (c[0]) {
            case "house":
                return house(a, -1, -1, b, Integer.parseInt(c[3])) >= 0;
            case "knock":
                return knock(a) >= 0;
            case "marry":
                return marry(a, b) >= 0;
            case "hat":
                boolean may = mayHat(a);
                hat(a);
                return may;
            case "forget":
                return forget(a, b);
            case "day":
                for (int i = 0; i < a; i++) {
                    if (day(1) < 0) {
                        return false;
                    }
                }
                return true;
            default:
                return true;
        }
    }

    int years(int seed, int n) {
        if (!in(seed, 0, 9999) || !in(n, 1, 40) || t().houses.isEmpty()) {
            return -1;
        }
        step();
        t().x = seed * 2 + 131;
        for (int i = 0; i < n; i++) {
            int x = draw();
            int k = x % t().houses.size();
            int m = x % 6;
            if (m <= 1 && here(k) != null) {
                doKnock(k);
            }
            if (m == 2 && x % 4 == 0 && mayHat(k)) {
                doHat(k);
            }
            if (m == 3 && x % 3 == 0 && here(k) != null) {
                here(k).dates.remove(x % 20);
            }
            if (m >= 4) {
                pass(rule(), t());
            }
        }
        return t().day;
    }

    int undo() {
        if (all.steps.isEmpty()) {
            return -1;
        }
        Town was = all.steps.remove(all.steps.size() - 1);
        for (int i = was.houses.size(); i < t().houses.size(); i++) {
            was.houses.add(t().houses.get(i));
        }
        all.town = was;
        return all.steps.size();
    }

    // ---- promises 16 to 25

    int of(int i, int what) {
        House h = h(i);
        if (h == null) {
            return -1;
        }
        int[] all = {
            bits(h.dates), h.purse, h.friends, h.gone ? 1 : 0, h.dates.contains(t().day % 20) ? 1 : 0,
            earns(rule(), t(), i, t().day), loses(rule(), t(), i), lets(rule(), t(), i) ? 1 : 0,
            beside(t(), i, t().day % 20)};
        return in(what, 0, 8) ? all[what] : -1;
    }

    int is(int what) {
        int[] all = {t().day, t().day % 20, t().x, openOn(t(), t().day % 20)};
        return in(what, 0, 3) ? all[what] : -2;
    }

    int book(int i, int what) {
        if (i == -1) {
            return t().book.size();
        }
        return in(i, 0, t().book.size() - 1) && in(what, 0, 2) ? t().book.get(i)[what] : -2;
    }

    int foretold(int n, int i) {
        return in(n, 1, 60) && h(i) != null ? later(n, rule()).houses.get(i).purse : -1;
    }

    private int shutOn(int date) {
        int many = 0;
        for (House h : t().houses) {
            many += !h.gone && h.dates.contains(date) ? 1 : 0;
        }
        return many;
    }

    int indoors(int n) {
        for (int d = 0; d <= 60 && in(n, 1, 7); d++) {
            if (shutOn((t().day + d) % 20) >= n) {
                return d;
            }
        }
        return -1;
    }

    int crowded(boolean many) {
        int most = 0;
        for (int d = 0; d < 20; d++) {
            most = Math.max(most, shutOn(d));
        }
        for (int d = 0; d < 20; d++) {
            if (shutOn(d) == most) {
                return many ? most : d;
            }
        }
        return -9;
    }

    int feast(boolean many) {
        int most = -1;
        int best = -1;
        for (int d = 19; d >= 0; d--) {
            int sum = 0;
            for (int i = 0; i < t().houses.size(); i++) {
                sum += isOpen(t(), i, d) ? h(i).friends : 0;
            }
            if (sum >= most) {
                most = sum;
                best = d;
            }
        }
        return many ? most : best;
    }

    int alone() {
        int bits = 0;
        for (int i = 0; i < 7; i++) {
            boolean shares = here(i) == null;
            for (int j = 0; j < 7; j++) {
                if (i != j && here(i) != null && here(j) != null) {
                    shares |= !Collections.disjoint(h(i).dates, h(j).dates);
                }
            }
            bits |= shares ? 0 : 1 << i;
        }
        return bits;
    }

    int nobodys() {
        int bits = 0;
        for (int d = 0; d < 20; d++) {
            bits |= shutOn(d) == 0 ? 1 << d : 0;
        }
        return bits;
    }

    int poorest(int n) {
        if (!in(n, 1, 60)) {
            return -1;
        }
        Town t = later(n, rule());
        int best = -1;
        for (int i = t.houses.size() - 1; i >= 0; i--) {
            if (!t.houses.get(i).gone && (best < 0 || t.houses.get(i).purse <= t.houses.get(best).purse)) {
                best = i;
            }
        }
        return best;
    }

    // ---- promises 26 to 31

    int seen(int i, int date, boolean shut) {
        if (i == -1) {
            all.seen.clear();
            return 0;
        }
        if (h(i) == null || !in(date, 0, 19) || all.seen.size() == 8) {
            return -2;
        }
        all.seen.add(new int[] {i, date, shut ? 1 : 0});
        return all.seen.size();
    }

    private List<Integer> may(int i, int m) {
        List<Integer> sets = new ArrayList<>();
        for (int set : SMALL_SETS) {
            boolean so = Integer.bitCount(set) == m;
            for (int[] k : t().book) {
                so &= k[1] != i || (set >> k[0] % 20 & 1) == k[2];
            }
            for (int[] s : all.seen) {
                so &= s[0] != i || (set >> s[1] & 1) == s[2];
            }
            if (so) {
                sets.add(set);
            }
        }
        return sets;
    }

    private static final List<Integer> SMALL_SETS = new ArrayList<>();

    static {
        for (int n = 1; n <= 3; n++) {
            for (int set = 0; set < 1 << 20; set++) {
                if (Integer.bitCount(set) == n) {
                    SMALL_SETS.add(set);
                }
            }
        }
    }

    private static int with(List<Integer> sets, int date) {
        int many = 0;
        for (int s : sets) {
            many += s >> date & 1;
        }
        return many;
    }

    int sets(int i, int m, boolean sure) {
        if (h(i) == null || !in(m, 1, 3)) {
            return -1;
        }
        List<Integer> sets = may(i, m);
        int common = sets.isEmpty() ? 0 : -1;
        for (int s : sets) {
            common &= s;
        }
        return sure ? common : sets.size();
    }

    int odds(int i, int m, int date, boolean low) {
        if (h(i) == null || !in(m, 1, 3) || !in(date, 0, 19)) {
            return -1;
        }
        List<Integer> sets = may(i, m);
        int upper = with(sets, date);
        int lower = sets.isEmpty() ? 1 : sets.size();
        for (int d = lower; d > 1; d--) {
            if (upper % d == 0 && lower % d == 0) {
                upper /= d;
                lower /= d;
            }
        }
        return low ? lower : upper;
    }

    int nextKnock(int i, int m) {
        if (h(i) == null || !in(m, 1, 3)) {
            return -1;
        }
        List<Integer> sets = may(i, m);
        int best = -1;
        for (int d = 19; d >= 0; d--) {
            int w = with(sets, d);
            if (w > 0 && w < sets.size() && (best < 0
                    || Math.abs(w - sets.size() / 2.0) <= Math.abs(with(sets, best) - sets.size() / 2.0))) {
                best = d;
            }
        }
        return best;
    }

    int thieves(int date, int k, boolean first) {
        if (!in(date, 0, 19) || !in(k, 1, 7)) {
            return -2;
        }
        int most = 0;
        int best = -1;
        for (int i = 0; i < t().houses.size(); i++) {
            for (int j = i; j < t().houses.size(); j++) {
                int sum = 0;
                int many = 0;
                int from = -1;
                boolean so = true;
                for (int n = i; n <= j; n++) {
                    if (!h(n).gone) {
                        from = from < 0 ? n : from;
                        many++;
                        sum += h(n).purse;
                        so &= h(n).dates.contains(date);
                    }
                }
                if (so && in(many, 1, k) && (best < 0 || sum > most || sum == most && from < best)) {
                    most = sum;
                    best = from;
                }
            }
        }
        return first ? best : most;
    }

    int night(int k) {
        int best = -1;
        for (int d = 19; d >= 0 && in(k, 1, 7); d--) {
            if (best < 0 || thieves(d, k, false) >= thieves(best, k, false)) {
                best = d;
            }
        }
        return best;
    }

    // ---- promises 32 to 40

    int appointments(int set, int i) {
        List<Integer> who = new ArrayList<>();
        for (int n = 0; n < 32; n++) {
            if ((set >>> n & 1) == 1) {
                who.add(n);
                if (here(n) == null) {
                    return -2;
                }
            }
        }
        if (!in(who.size(), 1, 5) || i != -1 && !who.contains(i)) {
            return -2;
        }
        best = null;
        int[] plan = new int[9];
        java.util.Arrays.fill(plan, 99);
        tryAll(who, 0, plan);
        int length = 0;
        for (int d = 0; d < 9; d++) {
            if (best[d] != 99) {
                length = d + 1;
            }
            if (best[d] == i) {
                return d;
            }
        }
        return length;
    }

    private int[] best;

    private void tryAll(List<Integer> who, int n, int[] plan) {
        if (n == who.size()) {
            if (best == null || isBetter(plan, best)) {
                best = plan.clone();
            }
            return;
        }
        for (int d = 0; d < 9; d++) {
            if (plan[d] == 99 && isOpen(t(), who.get(n), (t().day + d) % 20)) {
                plan[d] = who.get(n);
                tryAll(who, n + 1, plan);
                plan[d] = 99;
            }
        }
    }

    private static boolean isBetter(int[] a, int[] b) {
        for (int d = 8; d >= 0; d--) {
            if ((a[d] == 99) != (b[d] == 99)) {
                return a[d] == 99;
            }
            if (a[d] != 99) {
                break;
            }
        }
        return java.util.Arrays.compare(a, b) < 0;
    }

    int rounds() {
        boolean any = false;
        for (House h : t().houses) {
            any |= !h.gone;
        }
        for (int set : SMALL_SETS) {
            boolean so = any;
            for (House h : t().houses) {
                so &= h.gone || (set & ~bits(h.dates)) != 0;
            }
            if (so) {
                return set;
            }
        }
        return 0;
    }

    int weddings(int i) {
        if (i != -1 && h(i) == null) {
            return -2;
        }
        int n = t().houses.size();
        bestPairs = null;
        allPairs(new int[n], 0);
        return i == -1 ? together(bestPairs) : bestPairs[i];
    }

    private int[] bestPairs;

    private int together(int[] pairs) {
        int sum = 0;
        for (int i = 0; i < pairs.length; i++) {
            if (pairs[i] > i) {
                TreeSet<Integer> both = new TreeSet<>(h(i).dates);
                both.retainAll(h(pairs[i]).dates);
                sum += both.size();
            }
        }
        return sum;
    }

    /** Every row of partners is made, then looked at whether it is one of twos. */
    private void allPairs(int[] pairs, int i) {
        if (i == pairs.length) {
            int more = bestPairs == null ? 1 : together(pairs) - together(bestPairs);
            if (more > 0 || more == 0 && java.util.Arrays.compare(pairs, bestPairs) < 0) {
                bestPairs = pairs.clone();
            }
            return;
        }
        for (int p = -1; p < pairs.length; p++) {
            boolean may = p == -1 || p != i && !h(i).gone && !h(p).gone;
            may &= p < 0 || p > i || pairs[p] == i;
            for (int j = 0; j < i; j++) {
                may &= p == j ? pairs[j] == i : pairs[j] != i && (p == -1 || pairs[j] != p);
            }
            if (may) {
                pairs[i] = p;
                allPairs(pairs, i + 1);
            }
        }
    }

    int twins() {
        int many = 0;
        for (int i = 0; i < 7; i++) {
            for (int j = i + 1; j < 7; j++) {
                many += here(i) != null && here(j) != null && h(i).dates.equals(h(j).dates) ? 1 : 0;
            }
        }
        return many;
    }

    int gossip(int one, int other) {
        if (one == -1) {
            all.gossip.clear();
            return 0;
        }
        if (h(one) == null || h(other) == null || one == other || all.gossip.size() == 8) {
            return -2;
        }
        all.gossip.add(new int[] {one, other});
        return all.gossip.size();
    }

    int knows(int i, int other) {
        if (h(i) == null || h(other) == null) {
            return -1;
        }
        int[] since = new int[7];
        java.util.Arrays.fill(since, 99);
        since[other] = 0;
        for (int round = 0; round < 9; round++) {
            for (int[] g : all.gossip) {
                since[g[1]] = Math.min(since[g[1]], since[g[0]] + 1);
            }
        }
        return since[i] >= 99 ? -1 : since[i];
    }

    int never(int i) {
        int bits = 0;
        for (int n = 0; n < t().houses.size(); n++) {
            bits |= knows(n, i) < 0 ? 1 << n : 0;
        }
        return h(i) == null ? -1 : bits;
    }

    int richest(boolean earned) {
        int most = -1;
        int best = -1;
        for (int day = t().day; day < t().day + 20; day++) {
            int sum = 0;
            for (int i = 0; i < t().houses.size(); i++) {
                sum += isOpen(t(), i, day % 20) ? earns(rule(), t(), i, day) : 0;
            }
            if (sum > most || sum == most && day % 20 < best) {
                most = sum;
                best = day % 20;
            }
        }
        return earned ? most : best;
    }

    int whose(int n) {
        int best = -1;
        int most = -1;
        for (int i = 0; i < all.texts.size() && in(n, 1, 60); i++) {
            int sum = 0;
            for (House h : later(n, all.texts.get(i)).houses) {
                sum += h.purse;
            }
            if (sum > most) {
                most = sum;
                best = i;
            }
        }
        return best;
    }

    // ---- promises 41 to 46

    int knocks(int i, boolean shut) {
        if (i != -1 && h(i) == null) {
            return -2;
        }
        int many = 0;
        for (int[] k : t().book) {
            many += (i == -1 || k[1] == i) && k[2] == (shut ? 1 : 0) ? 1 : 0;
        }
        return many;
    }

    int offended() {
        int best = -1;
        for (int i = 0; i < t().houses.size(); i++) {
            if (knocks(i, true) > (best < 0 ? 0 : knocks(best, true))) {
                best = i;
            }
        }
        return best;
    }

    int leap(int i, int j) {
        for (int n = 0; n <= 20 && h(i) != null && h(j) != null; n++) {
            TreeSet<Integer> later = new TreeSet<>();
            for (int d : h(i).dates) {
                later.add((d + n) % 20);
            }
            if (later.equals(h(j).dates)) {
                return n;
            }
        }
        return -1;
    }

    int image() {
        kept = all.copy();
        return t().day;
    }

    int back() {
        all = kept.copy();
        return t().day;
    }

    int about(int what) {
        int[] a = {t().houses.size(), all.texts.size(), all.ruling, all.steps.size(), all.seen.size(),
            all.gossip.size(), tape.length()};
        return in(what, 0, 6) ? a[what] : -2;
    }
}
