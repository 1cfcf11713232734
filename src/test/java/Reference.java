import java.math.BigInteger;
import java.util.ArrayList;
import java.util.Arrays;
import java.util.List;
import java.util.function.Predicate;

/**
 * The document once more, word by word and without any thought of speed: chains and walks
 * one by one, exact fractions, real rows whose own exceptions are the FINDINGS. It shares
 * no way of reckoning with the class, so that a mistake of the one shows against the other.
 */
final class Reference {
    static final int NONE = -1, BAD = -2, NOT = -3, FULL = -4;

    record Q(BigInteger n, BigInteger d) {
        static final Q ZERO = of(0, 1), ONE = of(1, 1);
        static Q of(long n, long d) {
            return make(BigInteger.valueOf(n), BigInteger.valueOf(d));
        }
        static Q make(BigInteger n, BigInteger d) {
            BigInteger g = n.gcd(d);
            if (d.signum() < 0) g = g.negate();
            return new Q(n.divide(g), d.divide(g));
        }
        Q add(Q o) { return make(n.multiply(o.d).add(o.n.multiply(d)), d.multiply(o.d)); }
        Q sub(Q o) { return make(n.multiply(o.d).subtract(o.n.multiply(d)), d.multiply(o.d)); }
        Q mul(Q o) { return make(n.multiply(o.n), d.multiply(o.d)); }
        Q div(Q o) { return make(n.multiply(o.d), d.multiply(o.n)); }
        Q abs() { return new Q(n.abs(), d); }
        boolean zero() { return n.signum() == 0; }
        int cmp(Q o) { return n.multiply(o.d).compareTo(o.n.multiply(d)); }
    }

    static final class Rec {
        int bringer, kind, knows, day, back = 1000;
        StringBuilder marks = new StringBuilder();
    }

    int n = 6, start = NONE, length = 4, asOf = 99, from = 0, lastDay = 0, finding = 0;
    boolean[][] tied = new boolean[9][9];
    int[] kinds = new int[9];
    List<Rec> recs = new ArrayList<>();
    Object[] sheets = new Object[4];

    private static long told(Q q, int what) {
        if (q == null) return refuse(NOT);
        return (what == 0 ? q.n : q.d).longValueExact();
    }
    private static long refuse(int x) { return Long.MIN_VALUE + -x; }
    private boolean person(int p) { return 0 <= p && p < n; }
    private boolean rec(int r) { return 0 <= r && r < recs.size(); }
    private static boolean in(int v, int a, int b) { return a <= v && v <= b; }
    private int deg(int p) {
        int d = 0;
        for (int q = 0; q < n; q++) if (tied[p][q]) d++;
        return d;
    }
    private int degs() {
        int d = 0;
        for (int q = 0; q < n; q++) d += deg(q);
        return d;
    }

    int persons(int m) {
        if (!in(m, 1, 9)) return BAD;
        int old = n;
        for (int a = 0; a < 9; a++) {
            for (int b = 0; b < 9; b++) if (a >= m || b >= m) tied[a][b] = false;
            if (a >= m) kinds[a] = 0;
        }
        n = m;
        if (start >= m) start = NONE;
        return old;
    }
    int tie(int a, int b, boolean is) {
        if (!person(a) || !person(b) || a == b) return BAD;
        if (tied[a][b] == is) return 0;
        tied[a][b] = tied[b][a] = is;
        return 1;
    }
    int kind(int p, int v) {
        if (!person(p) || !in(v, 0, 1)) return BAD;
        int old = kinds[p];
        kinds[p] = v;
        return old;
    }
    int read(int s, int p) {
        if (!in(s, 0, 3) || !person(p)) return BAD;
        if (sheets[s] == null) return found(1);
        int j = 0;
        for (; j < n && j < java.lang.reflect.Array.getLength(sheets[s]); j++) {
            if (j == p) continue;
            int v = java.lang.reflect.Array.getInt(sheets[s], j);
            if (v != 0 && v != 1) break;
            tied[p][j] = tied[j][p] = v == 1;
        }
        return j;
    }
    int about(int p, int what) {
        if (!person(p) || !in(what, 0, 1)) return BAD;
        return what == 0 ? deg(p) : kinds[p];
    }
    private int[][] fars(int without) {
        int[][] d = new int[n][n];
        for (int a = 0; a < n; a++) for (int b = 0; b < n; b++) {
            d[a][b] = a == b ? 0 : tied[a][b] && a != without && b != without ? 1 : 1000;
        }
        for (int k = 0; k < n; k++) for (int a = 0; a < n; a++) for (int b = 0; b < n; b++) {
            d[a][b] = Math.min(d[a][b], d[a][k] + d[k][b]);
        }
        return d;
    }
    int far(int a, int b) {
        if (!person(a) || !person(b)) return BAD;
        int d = fars(-1)[a][b];
        return d >= 1000 ? NONE : d;
    }

    int set(int what, int v) {
        int old;
        switch (what) {
            case 0:
                if (v != NONE && !person(v)) return -5;
                old = start; start = v; return old;
            case 1:
                if (!in(v, 1, 7)) return -5;
                old = length; length = v; return old;
            case 2:
                if (!in(v, 0, 99)) return -5;
                old = asOf; asOf = v; return old;
            case 3:
                if (!in(v, 0, 9)) return -5;
                old = from; from = v; return old;
            default: return -5;
        }
    }

    /** The chance of all chains that are as asked, one by one. */
    private Q chains(Predicate<List<Integer>> asked) {
        Q sum = Q.ZERO;
        for (int p = 0; p < n; p++) {
            if (start != NONE && start != p) continue;
            List<Integer> chain = new ArrayList<>();
            chain.add(p);
            sum = sum.add(goOn(chain, asked).mul(Q.of(1, start == NONE ? n : 1)));
        }
        return sum;
    }
    private Q goOn(List<Integer> chain, Predicate<List<Integer>> asked) {
        List<Integer> free = new ArrayList<>();
        if (chain.size() < length) for (int q = 0; q < n; q++) {
            if (tied[chain.get(chain.size() - 1)][q] && !chain.contains(q)) free.add(q);
        }
        if (free.isEmpty()) return asked.test(chain) ? Q.ONE : Q.ZERO;
        Q sum = Q.ZERO;
        for (int q : free) {
            chain.add(q);
            sum = sum.add(goOn(chain, asked));
            chain.remove(chain.size() - 1);
        }
        return sum.mul(Q.of(1, free.size()));
    }
    long found(int p, int what) {
        if (!person(p) || !in(what, 0, 1)) return refuse(BAD);
        return told(chains(c -> c.contains(p)), what);
    }
    long both(int a, int b, int what) {
        if (!person(a) || !person(b) || !in(what, 0, 1)) return refuse(BAD);
        return told(chains(c -> c.contains(a) && c.contains(b)), what);
    }
    long size(int m, int what) {
        if (!in(m, 1, 7) || !in(what, 0, 1)) return refuse(BAD);
        return told(chains(c -> c.size() == m), what);
    }
    long kinds(int k, int what) {
        if (!in(k, 0, 7) || !in(what, 0, 1)) return refuse(BAD);
        return told(chains(c -> c.stream().filter(p -> kinds[p] == 1).count() == k), what);
    }
    long within(int e, int what) {
        if (!in(e, 0, 100) || !in(what, 0, 1)) return refuse(BAD);
        Q real = Q.of(Arrays.stream(kinds, 0, n).sum(), n);
        return told(chains(c -> {
            Q ones = Q.ZERO, all = Q.ZERO;
            for (int p : c) {
                Q w = Q.of(1, deg(p) == 0 ? 1 : deg(p));
                all = all.add(w);
                if (kinds[p] == 1) ones = ones.add(w);
            }
            return ones.div(all).sub(real).abs().cmp(Q.of(e, 100)) <= 0;
        }), what);
    }
    private Q walks(int k, int here, int there) {
        if (k == 0) return here == there ? Q.ONE : Q.ZERO;
        if (deg(here) == 0) return walks(k - 1, here, there);
        Q sum = Q.ZERO;
        for (int q = 0; q < n; q++) if (tied[here][q]) sum = sum.add(walks(k - 1, q, there));
        return sum.mul(Q.of(1, deg(here)));
    }
    private Q at(int k, int p) {
        if (start != NONE) return walks(k, start, p);
        Q sum = Q.ZERO;
        for (int q = 0; q < n; q++) sum = sum.add(walks(k, q, p));
        return sum.mul(Q.of(1, n));
    }
    long at(int k, int p, int what) {
        if (!in(k, 0, 5) || !person(p) || !in(what, 0, 1)) return refuse(BAD);
        return told(at(k, p), what);
    }
    long lasting(int p, int what) {
        if (!person(p) || !in(what, 0, 1)) return refuse(BAD);
        return told(degs() == 0 ? null : Q.of(deg(p), degs()), what);
    }
    long strayed(int k, int what) {
        if (!in(k, 0, 5) || !in(what, 0, 1)) return refuse(BAD);
        if (degs() == 0) return refuse(NOT);
        Q sum = Q.ZERO;
        for (int p = 0; p < n; p++) sum = sum.add(at(k, p).sub(Q.of(deg(p), degs())).abs());
        return told(sum.mul(Q.of(1, 2)), what);
    }

    private boolean counts(int r) {
        Rec x = recs.get(r);
        return x.day <= asOf && !(x.back <= asOf) && (x.bringer == NONE || counts(x.bringer));
    }
    private int waveOf(int r) { return recs.get(r).bringer == NONE ? 0 : 1 + waveOf(recs.get(r).bringer); }
    private int treeOf(int r) { return recs.get(r).bringer == NONE ? r : treeOf(recs.get(r).bringer); }
    private int broughtBy(int r) {
        int m = 0;
        for (Rec x : recs) if (x.bringer == r) m++;
        return m;
    }
    private List<Integer> counting() {
        List<Integer> l = new ArrayList<>();
        for (int r = 0; r < recs.size(); r++) if (counts(r)) l.add(r);
        return l;
    }
    private List<Integer> taken() {
        List<Integer> l = counting();
        l.removeIf(r -> waveOf(r) < from);
        return l;
    }

    int came(int bringer, int kind, int knows, int day) {
        if (bringer != NONE && !rec(bringer)) return BAD;
        if (!in(kind, 0, 1)) return BAD;
        if (knows != -1 && !in(knows, 1, 20)) return BAD;
        if (!in(day, 0, 99) || day < lastDay) return BAD;
        if (recs.size() == 24) return FULL;
        if (bringer != NONE && broughtBy(bringer) == 3) return NOT;
        Rec x = new Rec();
        x.bringer = bringer; x.kind = kind; x.knows = knows; x.day = day;
        recs.add(x);
        lastDay = day;
        return recs.size() - 1;
    }
    int takeBack(int r, int day) {
        if (!rec(r) || !in(day, 0, 99) || day < lastDay) return BAD;
        if (recs.get(r).back < 1000) return NOT;
        recs.get(r).back = day;
        lastDay = day;
        return 1;
    }
    int record(int r, int what) {
        if (!rec(r)) return -5;
        Rec x = recs.get(r);
        switch (what) {
            case 0: return x.bringer;
            case 1: return x.kind;
            case 2: return x.knows;
            case 3: return x.day;
            case 4: return counts(r) ? 1 : 0;
            case 5: return waveOf(r);
            case 6: return treeOf(r);
            case 7: return broughtBy(r);
            default: return -5;
        }
    }
    /** BY TIES, with what each KNOWS moved by so much, by KIND. */
    private Q byTies(List<Integer> of, int move0, int move1) {
        Q ones = Q.ZERO, all = Q.ZERO;
        for (int r : of) {
            Rec x = recs.get(r);
            if (x.knows == -1) continue;
            Q w = Q.of(1, Math.max(1, x.knows + (x.kind == 1 ? move1 : move0)));
            all = all.add(w);
            if (x.kind == 1) ones = ones.add(w);
        }
        return all.zero() ? null : ones.div(all);
    }
    /** The share of a KIND among TAKEN ones that a KIND brought. */
    private Q bringing(int by, int kind) {
        long all = 0, some = 0;
        for (int r : taken()) {
            Rec x = recs.get(r);
            if (x.bringer == NONE || recs.get(x.bringer).kind != by) continue;
            all++;
            if (x.kind == kind) some++;
        }
        return all == 0 ? null : Q.of(some, all);
    }
    private Q knowing(int kind) {
        Q sum = Q.ZERO;
        long m = 0;
        for (int r : taken()) {
            Rec x = recs.get(r);
            if (x.kind != kind || x.knows == -1) continue;
            m++;
            sum = sum.add(Q.of(1, x.knows));
        }
        return m == 0 ? null : Q.of(m, 1).div(sum);
    }
    long share(int how, int what) {
        if (!in(how, 0, 2) || !in(what, 0, 1)) return refuse(BAD);
        List<Integer> taken = taken();
        if (how == 0) {
            if (taken.isEmpty()) return refuse(NOT);
            return told(Q.of(taken.stream().filter(r -> recs.get(r).kind == 1).count(), taken.size()), what);
        }
        if (how == 1) return told(byTies(taken, 0, 0), what);
        Q p = bringing(0, 1), q = bringing(1, 0), t = knowing(0), u = knowing(1);
        if (p == null || q == null || t == null || u == null) return refuse(NOT);
        Q both = p.mul(t).add(q.mul(u));
        return told(both.zero() ? null : p.mul(t).div(both), what);
    }
    long bounds(int r, int end, int what) {
        if (!in(r, 0, 5) || !in(end, 0, 1) || !in(what, 0, 1)) return refuse(BAD);
        Q best = null;
        for (int a = -r; a <= r; a++) for (int b = -r; b <= r; b++) {
            Q q = byTies(taken(), a, b);
            if (q == null) return refuse(NOT);
            if (best == null || (end == 0 ? q.cmp(best) < 0 : q.cmp(best) > 0)) best = q;
        }
        return told(best, what);
    }
    long leaving(int end, int what) {
        if (!in(end, 0, 1) || !in(what, 0, 1)) return refuse(BAD);
        List<Integer> trees = counting();
        trees.removeIf(r -> treeOf(r) != r);
        if (trees.size() < 2) return refuse(NOT);
        Q best = null;
        for (int tree : trees) {
            List<Integer> rest = taken();
            rest.removeIf(r -> treeOf(r) == tree);
            Q q = byTies(rest, 0, 0);
            if (q == null) continue;
            if (best == null || (end == 0 ? q.cmp(best) < 0 : q.cmp(best) > 0)) best = q;
        }
        return told(best, what);
    }
    private int alikeIf(List<Integer> of, int deal) {
        int m = 0;
        for (int i = 0; i < of.size(); i++) {
            int by = of.indexOf(recs.get(of.get(i)).bringer);
            if (by >= 0 && (deal >> i & 1) == (deal >> by & 1)) m++;
        }
        return m;
    }
    int alike(int what) {
        if (!in(what, 0, 1)) return BAD;
        List<Integer> of = counting();
        int real = 0;
        for (int i = 0; i < of.size(); i++) real |= recs.get(of.get(i)).kind << i;
        if (what == 0) return alikeIf(of, real);
        if (of.size() > 14) return FULL;
        long all = 0, some = 0;
        for (int deal = 0; deal < 1 << of.size(); deal++) {
            if (Integer.bitCount(deal) != Integer.bitCount(real)) continue;
            all++;
            if (alikeIf(of, deal) >= alikeIf(of, real)) some++;
        }
        return (int) (some * 1000000 / all);
    }
    long forgot(int k, int what) {
        if (k != NONE && !in(k, 0, 6) || !in(what, 0, 1)) return refuse(BAD);
        Q p = bringing(0, 1), q = bringing(1, 0);
        if (p == null || q == null) return refuse(NOT);
        if (k == NONE) return told(p.add(q).zero() ? null : p.div(p.add(q)), what);
        Q x = Q.ZERO;
        for (int i = 0; i < k; i++) x = Q.ONE.sub(x).mul(p).add(x.mul(Q.ONE.sub(q)));
        return told(x, what);
    }
    int wave(int w) {
        if (!in(w, 0, 23)) return BAD;
        return (int) counting().stream().filter(r -> waveOf(r) == w).count();
    }

    int type(int r, int b) {
        if (!rec(r) || !in(b, 0, 255)) return BAD;
        if ("abcdefghijklmnopqrstuvwxyz?".indexOf(b) < 0) return NOT;
        if (recs.get(r).marks.length() == 8) return FULL;
        return recs.get(r).marks.append((char) b).length();
    }
    int wipe(int r) {
        if (!rec(r)) return BAD;
        int m = recs.get(r).marks.length();
        recs.get(r).marks.setLength(0);
        return m;
    }
    int clash(int a, int b) {
        if (!rec(a) || !rec(b)) return BAD;
        StringBuilder x = recs.get(a).marks, y = recs.get(b).marks;
        for (int i = 0; i < x.length() && i < y.length(); i++) {
            if (x.charAt(i) != '?' && y.charAt(i) != '?' && x.charAt(i) != y.charAt(i)) return 1;
        }
        return 0;
    }
    /** The fewest sets without a clash that hold all, by sets of sets; then the row, one by one. */
    private int fewest(List<List<Integer>> groups, List<Integer> rest, int best) {
        if (groups.size() >= best) return best;
        if (rest.isEmpty()) return groups.size();
        int r = rest.get(0);
        List<Integer> others = rest.subList(1, rest.size());
        for (int i = 0; i <= groups.size(); i++) {
            if (i == groups.size()) {
                groups.add(new ArrayList<>(List.of(r)));
                best = fewest(groups, others, best);
                groups.remove(groups.size() - 1);
                break;
            }
            List<Integer> g = groups.get(i);
            if (g.stream().anyMatch(o -> clash(o, r) == 1)) continue;
            g.add(r);
            best = fewest(groups, others, best);
            g.remove(g.size() - 1);
        }
        return best;
    }
    int least() {
        List<Integer> of = counting();
        if (of.size() > 12) return FULL;
        return fewest(new ArrayList<>(), of, 100);
    }
    int ones(int r) {
        if (!rec(r)) return BAD;
        List<Integer> of = counting();
        if (of.size() > 12) return FULL;
        if (!of.contains(r)) return NONE;
        int few = least();
        List<List<Integer>> groups = new ArrayList<>();
        for (int i = 0; i < few; i++) groups.add(new ArrayList<>());
        for (int at = 0; at < of.size(); at++) {
            int x = of.get(at);
            for (int p = 0; p < few; p++) {
                groups.get(p).add(x);
                if (fits(groups, of.subList(at + 1, of.size()))) {
                    if (x == r) return p;
                    break;
                }
                groups.get(p).remove(groups.get(p).size() - 1);
            }
        }
        throw new IllegalStateException();
    }
    private boolean fits(List<List<Integer>> groups, List<Integer> rest) {
        for (List<Integer> g : groups) for (int a : g) for (int b : g) if (clash(a, b) == 1) return false;
        if (rest.isEmpty()) return true;
        for (List<Integer> g : groups) {
            g.add(rest.get(0));
            boolean good = fits(groups, rest.subList(1, rest.size()));
            g.remove(g.size() - 1);
            if (good) return true;
            if (g.isEmpty()) return false;
        }
        return false;
    }

    int reach(int w) {
        if (!in(w, 0, 8)) return BAD;
        int[][] d = fars(-1);
        for (int m = 1; m <= n; m++) for (int set = 1; set < 1 << n; set++) {
            if (Integer.bitCount(set) != m) continue;
            boolean all = true;
            for (int p = 0; p < n; p++) {
                boolean near = false;
                for (int q = 0; q < n; q++) near |= (set >> q & 1) == 1 && d[q][p] <= w;
                all &= near;
            }
            if (all) return set;
        }
        throw new IllegalStateException();
    }
    private int pieces(int without) {
        int[][] d = fars(without);
        int m = 0;
        for (int p = 0; p < n; p++) {
            boolean first = p != without;
            for (int q = 0; q < p; q++) first &= q == without || d[q][p] >= 1000;
            if (first) m++;
        }
        return m;
    }
    int parts(int what) {
        if (!in(what, 0, 1)) return BAD;
        if (what == 0) return pieces(-1);
        int bits = 0;
        for (int p = 0; p < n; p++) if (pieces(p) > pieces(-1)) bits |= 1 << p;
        return bits;
    }
    long narrow(int what) {
        if (!in(what, 0, 2)) return refuse(BAD);
        Q best = null;
        int bits = NONE;
        for (int set = 1; set < 1 << n; set++) {
            long own = 0, out = 0;
            for (int p = 0; p < n; p++) if ((set >> p & 1) == 1) for (int q = 0; q < n; q++) {
                if (tied[p][q]) own++;
                if (tied[p][q] && (set >> q & 1) == 0) out++;
            }
            if (own == 0 || own * 2 > degs()) continue;
            if (best == null || Q.of(out, own).cmp(best) < 0) {
                best = Q.of(out, own);
                bits = set;
            }
        }
        return what == 2 ? bits : told(best, what);
    }

    private int found(int number) {
        finding = number;
        return -10 - number;
    }
    private static int formOf(Object row) {
        return row instanceof byte[] ? 0 : row instanceof short[] ? 1 : 2;
    }
    int sheet(int s, int form, int m) {
        if (!in(s, 0, 3) || !in(form, 0, 2) || m > 60) return BAD;
        try {
            sheets[s] = form == 0 ? new byte[m] : form == 1 ? (Object) new short[m] : new int[m];
        } catch (NegativeArraySizeException e) {
            return found(5);
        }
        return m;
    }
    int lose(int s) {
        if (!in(s, 0, 3)) return BAD;
        if (sheets[s] == null) return found(1);
        int m = java.lang.reflect.Array.getLength(sheets[s]);
        sheets[s] = null;
        return m;
    }
    int lay(int s, int form, int i, int v) {
        if (!in(s, 0, 3) || !in(form, 0, 2)) return BAD;
        try {
            if (sheets[s] == null) throw new NullPointerException();
            if (form == 0) ((byte[]) sheets[s])[i] = (byte) v;
            if (form == 1) ((short[]) sheets[s])[i] = (short) v;
            if (form == 2) ((int[]) sheets[s])[i] = v;
        } catch (NullPointerException e) {
            return found(1);
        } catch (ClassCastException e) {
            return found(3);
        } catch (ArrayIndexOutOfBoundsException e) {
            return found(2);
        }
        return 1;
    }
    int get(int s, int form, int i) {
        if (!in(s, 0, 3) || !in(form, 0, 2)) return Integer.MIN_VALUE;
        try {
            if (sheets[s] == null) throw new NullPointerException();
            if (form == 0) return ((byte[]) sheets[s])[i];
            if (form == 1) return ((short[]) sheets[s])[i];
            return ((int[]) sheets[s])[i];
        } catch (NullPointerException e) {
            found(1);
        } catch (ClassCastException e) {
            found(3);
        } catch (ArrayIndexOutOfBoundsException e) {
            found(2);
        }
        return Integer.MIN_VALUE;
    }
    int copy(int s, int i, int t, int j, int m) {
        if (!in(s, 0, 3) || !in(t, 0, 3)) return BAD;
        try {
            System.arraycopy(sheets[s], i, sheets[t], j, m);
        } catch (NullPointerException e) {
            return found(1);
        } catch (ArrayStoreException e) {
            return found(4);
        } catch (IndexOutOfBoundsException e) {
            return found(2);
        }
        return 1;
    }
    int write(int p, int s) {
        if (!person(p) || !in(s, 0, 3)) return BAD;
        if (sheets[s] == null) return found(1);
        int j = 0;
        for (; j < n && j < java.lang.reflect.Array.getLength(sheets[s]); j++) {
            lay(s, formOf(sheets[s]), j, tied[p][j] ? 1 : 0);
        }
        return j;
    }
    int count(int what) {
        switch (what) {
            case 0: return n;
            case 1: return degs() / 2;
            case 2: {
                int bits = 0;
                for (int p = 0; p < n; p++) bits |= kinds[p] << p;
                return bits;
            }
            case 3: return recs.size();
            case 4: return counting().size();
            case 5: return (int) counting().stream().map(this::treeOf).distinct().count();
            case 6: return start;
            case 7: return length;
            case 8: return finding;
            case 9: {
                int sum = 0;
                for (Rec x : recs) sum += x.marks.length();
                return sum;
            }
            default: return BAD;
        }
    }
    long digest() {
        List<Long> all = new ArrayList<>();
        for (int w : new int[] {0, 1, 2, 3, 4, 5, 6, 7, 9}) all.add((long) count(w));
        for (int p = 0; p < n; p++) {
            all.addAll(List.of((long) about(p, 0), (long) about(p, 1), found(p, 0), found(p, 1)));
        }
        all.addAll(List.of(within(10, 0), within(10, 1)));
        for (int r = 0; r < recs.size(); r++) for (int w = 0; w < 8; w++) all.add((long) record(r, w));
        for (int how = 0; how < 3; how++) all.addAll(List.of(share(how, 0), share(how, 1)));
        all.add((long) alike(0));
        all.addAll(List.of((long) parts(0), (long) parts(1)));
        all.addAll(List.of(narrow(0), narrow(1), narrow(2)));
        long h = 17;
        for (long v : all) h = 31 * h + v;
        return h;
    }
}
