import java.util.Arrays;

/** Found through one another: hidden people who bring others by coupons. */
public final class ThroughOthers {
    public static final int NONE = -1, BAD = -2, NOT = -3, FULL = -4;

    // -1 to -4 would be mistaken where NONE is an ordinary answer.
    private static final int BAD_SETTING = -5;
    private static final int MOST_LENGTH = 7, MOST_STEPS = 5, MOST_HUNDREDTHS = 100;
    private static final int MOST_FAR = 8, MOST_ROUNDED = 5, MOST_FORGOT = 6;
    private static final int MOST_BYTE = 255, DIGEST_HUNDREDTHS = 10;

    private final Net net;
    private final Chains chains;
    private final Walk walk;
    private final Records records;
    private final Shares shares;
    private final Deals deals;
    private final Marks marks;
    private final Sheets sheets;
    private int start;
    private int length;

    public ThroughOthers() {
        net = new Net();
        chains = new Chains(net);
        walk = new Walk(net);
        records = new Records();
        shares = new Shares(records);
        deals = new Deals(records);
        marks = new Marks(records);
        sheets = new Sheets();
        start = NONE;
        length = 4;
    }

    // ---- the net

    public int persons(int n) {
        if (n < 1 || n > Net.MOST) {
            return BAD;
        }
        int before = net.size;
        net.resize(n);
        if (!net.holds(start)) {
            start = NONE;
        }
        return before;
    }

    public int tie(int a, int b, boolean is) {
        if (!net.holds(a) || !net.holds(b) || a == b) {
            return BAD;
        }
        if (net.tied(a, b) == is) {
            return 0;
        }
        net.join(a, b, is);
        return 1;
    }

    public int kind(int person, int v) {
        if (!net.holds(person) || !isBit(v)) {
            return BAD;
        }
        int before = net.kindOf(person);
        net.turn(person, v);
        return before;
    }

    public int read(int s, int person) {
        if (!sheets.holds(s) || !net.holds(person)) {
            return BAD;
        }
        if (sheets.isLost(s)) {
            return sheets.finding(Sheets.NULL);
        }
        int most = Math.min(sheets.sizes[s], net.size);
        for (int j = 0; j < most; j++) {
            int item = sheets.item(s, j);
            if (j != person && !isBit(item)) {
                return j;
            }
            if (j != person) {
                net.join(person, j, item == 1);
            }
        }
        return most;
    }

    public int about(int person, int what) {
        if (!net.holds(person) || !isBit(what)) {
            return BAD;
        }
        return what == 0 ? net.degree(person) : net.kindOf(person);
    }

    public int far(int a, int b) {
        if (!net.holds(a) || !net.holds(b)) {
            return BAD;
        }
        return net.distance(a, b);
    }

    // ---- chains, walks

    public int set(int what, int v) {
        if (!isSetting(what, v)) {
            return BAD_SETTING;
        }
        int before = setting(what);
        if (what == 0) {
            start = v;
        } else if (what == 1) {
            length = v;
        } else if (what == 2) {
            records.look(v);
        } else {
            records.from = v;
        }
        return before;
    }

    public long found(int person, int what) {
        if (!net.holds(person) || !isBit(what)) {
            return refusal(BAD);
        }
        chains.follow(start, length);
        return fraction(chains.holding(1 << person), chains.whole, what);
    }

    public long both(int a, int b, int what) {
        if (!net.holds(a) || !net.holds(b) || !isBit(what)) {
            return refusal(BAD);
        }
        chains.follow(start, length);
        return fraction(chains.holding(1 << a | 1 << b), chains.whole, what);
    }

    public long size(int n, int what) {
        if (!isUpTo(n, 1, MOST_LENGTH) || !isBit(what)) {
            return refusal(BAD);
        }
        chains.follow(start, length);
        return fraction(chains.ofSize(n), chains.whole, what);
    }

    public long kinds(int k, int what) {
        if (!isUpTo(k, 0, MOST_LENGTH) || !isBit(what)) {
            return refusal(BAD);
        }
        chains.follow(start, length);
        return fraction(chains.ofKind(k), chains.whole, what);
    }

    public long within(int e, int what) {
        if (!isUpTo(e, 0, MOST_HUNDREDTHS) || !isBit(what)) {
            return refusal(BAD);
        }
        chains.follow(start, length);
        return fraction(chains.near(e), chains.whole, what);
    }

    public long at(int k, int person, int what) {
        if (!isUpTo(k, 0, MOST_STEPS) || !net.holds(person) || !isBit(what)) {
            return refusal(BAD);
        }
        walk.go(start, k);
        return fraction(walk.now[person], walk.whole, what);
    }

    public long lasting(int person, int what) {
        if (!net.holds(person) || !isBit(what)) {
            return refusal(BAD);
        }
        return fraction(net.degree(person), net.degrees(net.everyone()), what);
    }

    public long strayed(int k, int what) {
        if (!isUpTo(k, 0, MOST_STEPS) || !isBit(what)) {
            return refusal(BAD);
        }
        walk.go(start, k);
        return fraction(walk.apart(), walk.mostApart(), what);
    }

    // ---- records

    public int came(int bringer, int kind, int knows, int day) {
        boolean bringerThere = bringer == NONE || records.holds(bringer);
        boolean knowsFits = knows == Records.UNTOLD || isUpTo(knows, 1, Records.MOST_KNOWN);
        if (!bringerThere || !isBit(kind) || !knowsFits || !records.isNextDay(day)) {
            return BAD;
        }
        if (records.count >= Records.MOST) {
            return FULL;
        }
        if (bringer != NONE && records.brought[bringer] >= Records.MOST_BROUGHT) {
            return NOT;
        }
        return records.tell(bringer, kind, knows, day);
    }

    public int takeBack(int record, int day) {
        if (!records.holds(record) || !records.isNextDay(day)) {
            return BAD;
        }
        if (records.back[record] != Records.NEVER) {
            return NOT;
        }
        records.untell(record, day);
        return 1;
    }

    public int record(int record, int what) {
        if (!records.holds(record) || !isUpTo(what, 0, 7)) {
            return BAD_SETTING;
        }
        return records.detail(record, what);
    }

    public long share(int how, int what) {
        if (!isUpTo(how, 0, 2) || !isBit(what)) {
            return refusal(BAD);
        }
        if (how == 0) {
            return part(shares.taken(1), shares.taken(0), what);
        }
        if (how == 1) {
            return part(shares.byTies(1, NONE), shares.byTies(0, NONE), what);
        }
        return part(shares.byBringing(1), shares.byBringing(0), what);
    }

    public long bounds(int r, int end, int what) {
        if (!isUpTo(r, 0, MOST_ROUNDED) || !isBit(end) || !isBit(what)) {
            return refusal(BAD);
        }
        // The share of KIND 1 is least when its own weigh least and the others most.
        int shift = end == 0 ? r : -r;
        return part(shares.rounded(1, shift), shares.rounded(0, -shift), what);
    }

    public long leaving(int end, int what) {
        if (!isBit(end) || !isBit(what)) {
            return refusal(BAD);
        }
        int left = shares.treeToLeave(end);
        if (left == NONE) {
            return refusal(NOT);
        }
        return part(shares.byTies(1, left), shares.byTies(0, left), what);
    }

    public int alike(int what) {
        if (!isBit(what)) {
            return BAD;
        }
        if (what == 0) {
            return records.likes();
        }
        return records.counting() > Deals.MOST ? FULL : deals.chance();
    }

    public long forgot(int k, int what) {
        if ((k != NONE && !isUpTo(k, 0, MOST_FORGOT)) || !isBit(what)) {
            return refusal(BAD);
        }
        shares.countBringing();
        if (k == NONE) {
            return part(shares.pull(1), shares.pull(0), what);
        }
        return fraction(shares.ofWave(k), shares.wholeWave(k), what);
    }

    public int wave(int wave) {
        if (!isUpTo(wave, 0, Records.MOST - 1)) {
            return BAD;
        }
        return records.inWave(wave);
    }

    // ---- marks

    public int type(int record, int b) {
        if (!records.holds(record) || !isUpTo(b, 0, MOST_BYTE)) {
            return BAD;
        }
        if (!Marks.isSign(b)) {
            return NOT;
        }
        if (marks.lengths[record] >= Marks.MOST_SIGNS) {
            return FULL;
        }
        return marks.append(record, b);
    }

    public int wipe(int record) {
        if (!records.holds(record)) {
            return BAD;
        }
        int before = marks.lengths[record];
        marks.lengths[record] = 0;
        return before;
    }

    public int clash(int a, int b) {
        if (!records.holds(a) || !records.holds(b)) {
            return BAD;
        }
        return marks.differ(a, b) ? 1 : 0;
    }

    public int least() {
        if (records.counting() > Marks.MOST_DEALT) {
            return FULL;
        }
        return marks.tellApart();
    }

    public int ones(int record) {
        if (!records.holds(record)) {
            return BAD;
        }
        if (records.counting() > Marks.MOST_DEALT) {
            return FULL;
        }
        if (!records.counts[record]) {
            return NONE;
        }
        marks.tellApart();
        return marks.personOf(record);
    }

    // ---- reach

    public int reach(int w) {
        if (!isUpTo(w, 0, MOST_FAR)) {
            return BAD;
        }
        return net.fewestReaching(w);
    }

    public int parts(int what) {
        if (!isBit(what)) {
            return BAD;
        }
        return what == 0 ? net.pieces(net.everyone()) : net.bridges();
    }

    public long narrow(int what) {
        if (!isUpTo(what, 0, 2)) {
            return refusal(BAD);
        }
        int set = net.narrowest();
        if (what == 2) {
            return set == 0 ? NONE : set;
        }
        return fraction(net.leadingOut(set), net.degrees(set), what);
    }

    // ---- sheets

    public int sheet(int s, int form, int n) {
        if (!sheets.holds(s) || !Sheets.isForm(form) || n > Sheets.MOST_ITEMS) {
            return BAD;
        }
        if (n < 0) {
            return sheets.finding(Sheets.SIZE);
        }
        sheets.renew(s, form, n);
        return n;
    }

    public int lose(int s) {
        if (!sheets.holds(s)) {
            return BAD;
        }
        if (sheets.isLost(s)) {
            return sheets.finding(Sheets.NULL);
        }
        sheets.forms[s] = NONE;
        return sheets.sizes[s];
    }

    public int lay(int s, int form, int i, int v) {
        if (!sheets.holds(s) || !Sheets.isForm(form)) {
            return BAD;
        }
        int fault = sheets.faultOf(s, form, i);
        if (fault != 0) {
            return sheets.finding(fault);
        }
        sheets.put(s, i, v);
        return 1;
    }

    public int get(int s, int form, int i) {
        if (!sheets.holds(s) || !Sheets.isForm(form)) {
            return Integer.MIN_VALUE;
        }
        int fault = sheets.faultOf(s, form, i);
        if (fault != 0) {
            sheets.finding(fault);
            return Integer.MIN_VALUE;
        }
        return sheets.item(s, i);
    }

    public int copy(int s, int i, int t, int j, int n) {
        if (!sheets.holds(s) || !sheets.holds(t)) {
            return BAD;
        }
        if (sheets.isLost(s) || sheets.isLost(t)) {
            return sheets.finding(Sheets.NULL);
        }
        if (sheets.forms[s] != sheets.forms[t]) {
            return sheets.finding(Sheets.STORE);
        }
        if (!sheets.spans(s, i, n) || !sheets.spans(t, j, n)) {
            return sheets.finding(Sheets.INDEX);
        }
        System.arraycopy(sheets.items[s], i, sheets.items[t], j, n);
        return 1;
    }

    public int write(int person, int s) {
        if (!net.holds(person) || !sheets.holds(s)) {
            return BAD;
        }
        if (sheets.isLost(s)) {
            return sheets.finding(Sheets.NULL);
        }
        int most = Math.min(sheets.sizes[s], net.size);
        for (int j = 0; j < most; j++) {
            sheets.put(s, j, net.tied(person, j) ? 1 : 0);
        }
        return most;
    }

    public int count(int what) {
        switch (what) {
            case 0: return net.size;
            case 1: return net.degrees(net.everyone()) / 2;
            case 2: return net.kindBits;
            case 3: return records.count;
            case 4: return records.counting();
            case 5: return records.inWave(0); // a TREE counts just as its SEED does
            case 6: return start;
            case 7: return length;
            case 8: return sheets.latest;
            case 9: return marks.signsOfAll();
            default: return BAD;
        }
    }

    public long digest() {
        long h = 17;
        for (int what = 0; what <= 9; what++) {
            h = what == 8 ? h : 31 * h + count(what);
        }
        h = digestOfNet(h);
        h = digestOfRecords(h);
        h = 31 * h + alike(0);
        h = 31 * h + parts(0);
        h = 31 * h + parts(1);
        for (int what = 0; what <= 2; what++) {
            h = 31 * h + narrow(what);
        }
        return h;
    }

    private long digestOfNet(long before) {
        long h = before;
        for (int person = 0; person < net.size; person++) {
            h = 31 * h + about(person, 0);
            h = 31 * h + about(person, 1);
            h = 31 * h + found(person, 0);
            h = 31 * h + found(person, 1);
        }
        h = 31 * h + within(DIGEST_HUNDREDTHS, 0);
        return 31 * h + within(DIGEST_HUNDREDTHS, 1);
    }

    private long digestOfRecords(long before) {
        long h = before;
        for (int record = 0; record < records.count; record++) {
            for (int what = 0; what <= 7; what++) {
                h = 31 * h + record(record, what);
            }
        }
        for (int how = 0; how <= 2; how++) {
            h = 31 * h + share(how, 0);
            h = 31 * h + share(how, 1);
        }
        return h;
    }

    private boolean isSetting(int what, int v) {
        switch (what) {
            case 0: return v == NONE || net.holds(v);
            case 1: return isUpTo(v, 1, MOST_LENGTH);
            case 2: return isUpTo(v, 0, Records.LAST_DAY);
            case 3: return isUpTo(v, 0, Records.MOST_FROM);
            default: return false;
        }
    }

    private int setting(int what) {
        switch (what) {
            case 0: return start;
            case 1: return length;
            case 2: return records.asOf;
            default: return records.from;
        }
    }

    private static boolean isBit(int v) {
        return v == 0 || v == 1;
    }

    private static boolean isUpTo(int v, int least, int most) {
        return v >= least && v <= most;
    }

    private static long refusal(int x) {
        return Long.MIN_VALUE - x;
    }

    private static long part(long one, long other, int what) {
        return fraction(one, one + other, what);
    }

    /** A whole of 0 means that there is nothing to take a share of. */
    private static long fraction(long above, long below, int what) {
        long common = greatestCommon(above, below);
        if (below <= 0 || common <= 0) {
            return refusal(NOT);
        }
        return (what == 0 ? above : below) / common;
    }

    private static long greatestCommon(long a, long b) {
        long x = a;
        long y = b;
        // Two longs need fewer than 100 divisions.
        for (int i = 0; i < 200 && y != 0; i++) {
            long rest = x % y;
            x = y;
            y = rest;
        }
        return x;
    }

    /** PERSONS and TIES; sets of PERSONS are bits. */
    private static final class Net {
        static final int MOST = 9;

        final int[] ties;
        int size;
        int kindBits;
        /** Lets others see that what they kept about the TIES is out of date. */
        int changes;

        Net() {
            ties = new int[MOST];
            size = 6;
        }

        boolean holds(int person) {
            return person >= 0 && person < size;
        }

        int everyone() {
            return (1 << size) - 1;
        }

        boolean tied(int a, int b) {
            return holds(a) && holds(b) && (ties[a] >> b & 1) == 1;
        }

        int degree(int person) {
            return holds(person) ? Integer.bitCount(ties[person]) : 0;
        }

        int kindOf(int person) {
            return kindBits >> person & 1;
        }

        int kindOnes() {
            return Integer.bitCount(kindBits);
        }

        void resize(int n) {
            size = n;
            kindBits &= everyone();
            for (int p = 0; p < MOST; p++) {
                ties[p] = p < n ? ties[p] & everyone() : 0;
            }
            changes++;
        }

        void join(int a, int b, boolean is) {
            if (!holds(a) || !holds(b)) {
                return;
            }
            ties[a] = is ? ties[a] | 1 << b : ties[a] & ~(1 << b);
            ties[b] = is ? ties[b] | 1 << a : ties[b] & ~(1 << a);
            changes++;
        }

        void turn(int person, int v) {
            kindBits = kindBits & ~(1 << person) | v << person;
        }

        int degrees(int set) {
            int sum = 0;
            for (int p = 0; p < size; p++) {
                sum += (set >> p & 1) * degree(p);
            }
            return sum;
        }

        int leadingOut(int set) {
            int sum = 0;
            for (int p = 0; p < size; p++) {
                sum += (set >> p & 1) * Integer.bitCount(ties[p] & ~set);
            }
            return sum;
        }

        /** Those of a set, and whom they reach by so many TIES without leaving those among whom to go. */
        int spread(int set, int steps, int among) {
            int reached = set;
            for (int step = 0; step < steps; step++) {
                int more = reached;
                for (int p = 0; p < size; p++) {
                    more |= (reached >> p & 1) == 1 ? ties[p] & among : 0;
                }
                if (more == reached) {
                    return reached;
                }
                reached = more;
            }
            return reached;
        }

        int distance(int a, int b) {
            for (int steps = 0; steps < MOST; steps++) {
                if ((spread(1 << a, steps, everyone()) >> b & 1) == 1) {
                    return steps;
                }
            }
            return NONE;
        }

        int pieces(int among) {
            int number = 0;
            int left = among;
            for (int i = 0; i < MOST && left != 0; i++) {
                left &= ~spread(Integer.lowestOneBit(left), MOST, among);
                number++;
            }
            return number;
        }

        int bridges() {
            int found = 0;
            int before = pieces(everyone());
            for (int p = 0; p < size; p++) {
                if (pieces(everyone() & ~(1 << p)) > before) {
                    found |= 1 << p;
                }
            }
            return found;
        }

        int fewestReaching(int w) {
            int best = everyone();
            for (int set = 1; set < everyone(); set++) {
                boolean fewer = Integer.bitCount(set) < Integer.bitCount(best);
                if (fewer && spread(set, w, everyone()) == everyone()) {
                    best = set;
                }
            }
            return best;
        }

        /** 0: there is no such set. */
        int narrowest() {
            int best = 0;
            int bestOut = 0;
            int bestDegrees = 0;
            int all = degrees(everyone());
            for (int set = 1; set <= everyone(); set++) {
                int own = degrees(set);
                if (own == 0 || 2 * own > all) {
                    continue;
                }
                int out = leadingOut(set);
                if (best == 0 || out * bestDegrees < bestOut * own) {
                    best = set;
                    bestOut = out;
                    bestDegrees = own;
                }
            }
            return best;
        }
    }

    /** With what chance a CHAIN ends as which set: all that is asked of it depends on that set alone. */
    private static final class Chains {
        // Behind the 1st to the 6th at most 8, 7, .. 3 are free, and each such number
        // divides its factor here: so all chances stay whole numbers of this unit.
        private static final long UNIT = 840L * 420 * 60 * 60 * 12 * 6;
        private static final int BY_DEGREE = 840; // 1 to 8 divide it

        private final Net net;
        private final long[] going;
        private final long[] ended;
        private int followedChanges;
        private int followedStart;
        private int followedLength;
        long whole;

        Chains(Net net) {
            this.net = net;
            going = new long[(1 << Net.MOST) * Net.MOST];
            ended = new long[1 << Net.MOST];
            followedChanges = NONE;
        }

        void follow(int start, int length) {
            boolean same = followedStart == start && followedLength == length;
            if (same && followedChanges == net.changes) {
                return;
            }
            begin(start);
            for (int set = 1; set <= net.everyone(); set++) {
                for (int last = 0; last < net.size; last++) {
                    goOn(set, last, length);
                }
            }
            followedStart = start;
            followedLength = length;
            followedChanges = net.changes;
        }

        private void begin(int start) {
            Arrays.fill(going, 0);
            Arrays.fill(ended, 0);
            whole = 0;
            for (int p = 0; p < net.size; p++) {
                if (start == NONE || start == p) {
                    going[place(1 << p, p)] = UNIT;
                    whole += UNIT;
                }
            }
        }

        private void goOn(int set, int last, int length) {
            long chance = going[place(set, last)];
            if (chance == 0) {
                return;
            }
            int free = net.ties[last] & ~set;
            int choices = Integer.bitCount(free);
            if (choices == 0 || Integer.bitCount(set) >= length) {
                ended[set] += chance;
                return;
            }
            // A longer chain's set is the greater number, so it is looked at later.
            for (int next = 0; next < net.size; next++) {
                if ((free >> next & 1) == 1) {
                    going[place(set | 1 << next, next)] += chance / choices;
                }
            }
        }

        private static int place(int set, int last) {
            return set * Net.MOST + last;
        }

        long holding(int bits) {
            long sum = 0;
            for (int set = 1; set <= net.everyone(); set++) {
                sum += (set & bits) == bits ? ended[set] : 0;
            }
            return sum;
        }

        long ofSize(int n) {
            long sum = 0;
            for (int set = 1; set <= net.everyone(); set++) {
                sum += Integer.bitCount(set) == n ? ended[set] : 0;
            }
            return sum;
        }

        long ofKind(int k) {
            long sum = 0;
            for (int set = 1; set <= net.everyone(); set++) {
                sum += Integer.bitCount(set & net.kindBits) == k ? ended[set] : 0;
            }
            return sum;
        }

        long near(int hundredths) {
            long sum = 0;
            for (int set = 1; set <= net.everyone(); set++) {
                sum += ended[set] > 0 && isNear(set, hundredths) ? ended[set] : 0;
            }
            return sum;
        }

        private boolean isNear(int set, int hundredths) {
            long ones = weight(set & net.kindBits);
            long all = weight(set);
            long gap = Math.abs(ones * net.size - all * net.kindOnes());
            return gap * MOST_HUNDREDTHS <= all * net.size * hundredths;
        }

        private long weight(int set) {
            long sum = 0;
            for (int p = 0; p < net.size; p++) {
                // One without TIES is alone in its chain and counts 1.
                int degree = Math.max(1, Integer.bitCount(net.ties[p]));
                sum += (set >> p & 1) * (BY_DEGREE / degree);
            }
            return sum;
        }
    }

    /** Where a WALK is, with what chance. */
    private static final class Walk {
        // Each DEGREE divides 840, and there are five steps at most.
        private static final long UNIT = 840L * 840 * 840 * 840 * 840;

        private final Net net;
        private final long[] next;
        final long[] now;
        long whole;

        Walk(Net net) {
            this.net = net;
            now = new long[Net.MOST];
            next = new long[Net.MOST];
        }

        void go(int start, int steps) {
            whole = 0;
            for (int p = 0; p < Net.MOST; p++) {
                boolean here = net.holds(p) && (start == NONE || start == p);
                now[p] = here ? UNIT : 0;
                whole += now[p];
            }
            for (int i = 0; i < steps; i++) {
                step();
            }
        }

        private void step() {
            Arrays.fill(next, 0);
            for (int p = 0; p < net.size; p++) {
                int degree = net.degree(p);
                if (degree == 0) {
                    next[p] += now[p];
                    continue;
                }
                for (int q = 0; q < net.size; q++) {
                    next[q] += net.tied(p, q) ? now[p] / degree : 0;
                }
            }
            System.arraycopy(next, 0, now, 0, Net.MOST);
        }

        /** By mostApart(): STRAYED. Both stay below 9 * 840^5 * 72 * 2, which a long holds. */
        long apart() {
            long all = net.degrees(net.everyone());
            long sum = 0;
            for (int p = 0; p < net.size; p++) {
                sum += Math.abs(now[p] * all - net.degree(p) * whole);
            }
            return sum;
        }

        long mostApart() {
            return 2 * whole * net.degrees(net.everyone());
        }
    }

    /** Who came by whom, and who of them COUNTS. */
    private static final class Records {
        static final int MOST = 24, MOST_BROUGHT = 3, MOST_KNOWN = 20, UNTOLD = -1;
        static final int LAST_DAY = 99, NEVER = 100, MOST_FROM = 9;

        final int[] bringer;
        final int[] kind;
        final int[] knows;
        final int[] day;
        final int[] back;
        final int[] wave;
        final int[] tree;
        final int[] brought;
        final boolean[] counts;
        int count;
        int latestDay;
        int asOf;
        int from;

        Records() {
            bringer = new int[MOST];
            kind = new int[MOST];
            knows = new int[MOST];
            day = new int[MOST];
            back = new int[MOST];
            wave = new int[MOST];
            tree = new int[MOST];
            brought = new int[MOST];
            counts = new boolean[MOST];
            asOf = LAST_DAY;
        }

        boolean holds(int record) {
            return record >= 0 && record < count;
        }

        boolean isNextDay(int day) {
            return day >= latestDay && day <= LAST_DAY;
        }

        int tell(int by, int ofKind, int known, int onDay) {
            if (count >= MOST) {
                return FULL;
            }
            int number = count;
            boolean seed = !holds(by);
            bringer[number] = seed ? NONE : by;
            kind[number] = ofKind;
            knows[number] = known;
            day[number] = onDay;
            back[number] = NEVER;
            wave[number] = seed ? 0 : wave[by] + 1;
            tree[number] = seed ? number : tree[by];
            brought[number] = 0;
            if (!seed) {
                brought[by]++;
            }
            count++;
            latestDay = onDay;
            look(asOf);
            return number;
        }

        void untell(int record, int onDay) {
            if (!holds(record)) {
                return;
            }
            back[record] = onDay;
            latestDay = onDay;
            look(asOf);
        }

        /** A BRINGER was told ahead, so it is judged ahead. */
        void look(int onDay) {
            asOf = onDay;
            for (int i = 0; i < count; i++) {
                boolean own = day[i] <= onDay && back[i] > onDay;
                counts[i] = own && (bringer[i] == NONE || counts[bringer[i]]);
            }
        }

        boolean isTaken(int record) {
            return counts[record] && wave[record] >= from;
        }

        int detail(int record, int what) {
            switch (what) {
                case 0: return bringer[record];
                case 1: return kind[record];
                case 2: return knows[record];
                case 3: return day[record];
                case 4: return counts[record] ? 1 : 0;
                case 5: return wave[record];
                case 6: return tree[record];
                default: return brought[record];
            }
        }

        int counting() {
            int number = 0;
            for (int i = 0; i < count; i++) {
                number += counts[i] ? 1 : 0;
            }
            return number;
        }

        int inWave(int w) {
            int number = 0;
            for (int i = 0; i < count; i++) {
                number += counts[i] && wave[i] == w ? 1 : 0;
            }
            return number;
        }

        int likes() {
            int number = 0;
            for (int i = 0; i < count; i++) {
                boolean brought = counts[i] && bringer[i] != NONE;
                number += brought && kind[i] == kind[bringer[i]] ? 1 : 0;
            }
            return number;
        }
    }

    /**
     * Shares of KIND 1 among TAKEN ones. Each is told by two amounts, one for either KIND:
     * the share is that of KIND 1 by both together, and is NOT there if both are 0.
     */
    private static final class Shares {
        private static final long UP_TO_20 = 232792560L;    // 1 to 20 divide it
        private static final long UP_TO_25 = 26771144400L;  // 1 to 25 divide it

        private final Records records;
        /** TAKEN ones by the BRINGER's KIND and their own: 2 times the one and the other. */
        private final int[] pairs;

        Shares(Records records) {
            this.records = records;
            pairs = new int[4];
        }

        long taken(int kind) {
            long number = 0;
            for (int i = 0; i < records.count; i++) {
                number += records.isTaken(i) && records.kind[i] == kind ? 1 : 0;
            }
            return number;
        }

        private boolean tells(int record, int kind) {
            boolean told = records.knows[record] != Records.UNTOLD;
            return told && records.isTaken(record) && records.kind[record] == kind;
        }

        private long telling(int kind) {
            long number = 0;
            for (int i = 0; i < records.count; i++) {
                number += tells(i, kind) ? 1 : 0;
            }
            return number;
        }

        long byTies(int kind, int leftTree) {
            long sum = 0;
            for (int i = 0; i < records.count; i++) {
                boolean there = records.tree[i] != leftTree && tells(i, kind);
                sum += there ? UP_TO_20 / Math.max(1, records.knows[i]) : 0;
            }
            return sum;
        }

        long rounded(int kind, int shift) {
            long sum = 0;
            for (int i = 0; i < records.count; i++) {
                sum += tells(i, kind) ? UP_TO_25 / Math.max(1, records.knows[i] + shift) : 0;
            }
            return sum;
        }

        /** The TREE without which BY TIES is the least (end 0) or the greatest (1); NONE: it is NOT each time. */
        int treeToLeave(int end) {
            int best = NONE;
            for (int tree = 0; tree < records.count; tree++) {
                boolean isTree = records.counts[tree] && records.tree[tree] == tree;
                // With one TREE alone nothing is there without it.
                if (!isTree || byTies(0, tree) + byTies(1, tree) == 0) {
                    continue;
                }
                if (best == NONE || (end == 0 ? isLess(tree, best) : isLess(best, tree))) {
                    best = tree;
                }
            }
            return best;
        }

        /**
         * Each product holds sums over RECORDS of unlike KINDS, 24 together at most:
         * so it is no more than 12 * 12 * UP_TO_20 squared, which a long holds.
         */
        private boolean isLess(int tree, int other) {
            return byTies(1, tree) * byTies(0, other) < byTies(1, other) * byTies(0, tree);
        }

        void countBringing() {
            Arrays.fill(pairs, 0);
            for (int i = 0; i < records.count; i++) {
                int by = records.bringer[i];
                if (records.isTaken(i) && by != NONE) {
                    pairs[2 * records.kind[by] + records.kind[i]]++;
                }
            }
        }

        /** P (kind 1) or Q (kind 0), each by the product of both wholes; 0, if either is not there. */
        long pull(int kind) {
            return kind == 1
                ? (long) pairs[1] * (pairs[2] + pairs[3])
                : (long) pairs[2] * (pairs[0] + pairs[1]);
        }

        /**
         * P T or Q U, each by the same whole. The sum for a KIND stands below in its own
         * amount, and so above in the other's. Whatever is not there makes both 0.
         */
        long byBringing(int kind) {
            countBringing();
            return pull(kind) * telling(1 - kind) * byTies(kind, NONE);
        }

        long wholeWave(int k) {
            long whole = (pairs[0] + pairs[1]) * (pairs[2] + pairs[3]);
            long power = Math.min(1, whole);
            for (int i = 0; i < k; i++) {
                power *= whole;
            }
            return power;
        }

        /** Those of KIND 1 in a WAVE, by wholeWave(). */
        long ofWave(int k) {
            long staying = (long) pairs[3] * (pairs[0] + pairs[1]);
            long ones = 0;
            for (int i = 0; i < k; i++) {
                ones = (wholeWave(i) - ones) * pull(1) + ones * staying;
            }
            return ones;
        }
    }

    /** All ways to deal the KINDS over those that COUNT; a deal is bits, by their order. */
    private static final class Deals {
        static final int MOST = 14;
        private static final int MILLION = 1000000;

        private final Records records;
        private final int[] order;
        private final int[] bringerOrder;
        private int number;

        Deals(Records records) {
            this.records = records;
            order = new int[Records.MOST];
            bringerOrder = new int[MOST];
        }

        int chance() {
            int real = gather();
            int alike = alikeIn(real);
            int deal = (1 << Integer.bitCount(real)) - 1;
            long ways = 0;
            long reaching = 0;
            for (int i = 0; i < 1 << MOST && deal < 1 << number; i++) {
                ways++;
                reaching += alikeIn(deal) >= alike ? 1 : 0;
                deal = following(deal);
            }
            return ways == 0 ? MILLION : (int) (reaching * MILLION / ways);
        }

        /** Sets the order, and answers how the KINDS are dealt in truth. */
        private int gather() {
            int real = 0;
            number = 0;
            for (int i = 0; i < records.count && number < MOST; i++) {
                if (records.counts[i]) {
                    int by = records.bringer[i];
                    order[i] = number;
                    bringerOrder[number] = by == NONE ? NONE : order[by];
                    real |= records.kind[i] << number;
                    number++;
                }
            }
            return real;
        }

        private int alikeIn(int deal) {
            int sum = 0;
            for (int i = 0; i < number; i++) {
                int by = bringerOrder[i];
                sum += by != NONE && (deal >> i & 1) == (deal >> by & 1) ? 1 : 0;
            }
            return sum;
        }

        /** The next greater number with as many bits. */
        private static int following(int deal) {
            if (deal == 0) {
                return Integer.MAX_VALUE;
            }
            int low = Integer.lowestOneBit(deal);
            int carried = deal + low;
            return carried | (deal ^ carried) >>> 2 + Integer.numberOfTrailingZeros(low);
        }
    }

    /** Signs of RECORDS, and how few PERSONS they can be. */
    private static final class Marks {
        static final int MOST_SIGNS = 8, MOST_DEALT = 12;
        private static final int UNKNOWN = '?';

        private final Records records;
        private final int[] signs;
        final int[] lengths;
        private final int[] dealt;
        private final int[] clashing;
        private final int[] person;
        private final int[] members;
        private int number;

        Marks(Records records) {
            this.records = records;
            signs = new int[Records.MOST * MOST_SIGNS];
            lengths = new int[Records.MOST];
            dealt = new int[MOST_DEALT];
            clashing = new int[MOST_DEALT];
            person = new int[MOST_DEALT];
            members = new int[MOST_DEALT];
        }

        static boolean isSign(int b) {
            return b >= 'a' && b <= 'z' || b == UNKNOWN;
        }

        int append(int record, int sign) {
            signs[record * MOST_SIGNS + lengths[record]] = sign;
            lengths[record]++;
            return lengths[record];
        }

        int signsOfAll() {
            int sum = 0;
            for (int i = 0; i < records.count; i++) {
                sum += lengths[i];
            }
            return sum;
        }

        boolean differ(int a, int b) {
            int shared = Math.min(lengths[a], lengths[b]);
            for (int i = 0; i < shared; i++) {
                int one = signs[a * MOST_SIGNS + i];
                int other = signs[b * MOST_SIGNS + i];
                if (one != other && one != UNKNOWN && other != UNKNOWN) {
                    return true;
                }
            }
            return false;
        }

        /** How few PERSONS they can be; sets who is which. */
        int tellApart() {
            gather();
            for (int limit = apartForSure(); limit < number; limit++) {
                Arrays.fill(members, 0);
                if (deal(0, 0, limit)) {
                    return limit;
                }
            }
            Arrays.fill(members, 0);
            deal(0, 0, number);
            return number;
        }

        /** Those that all CLASH with one another: fewer PERSONS need not be tried, which takes long. */
        private int apartForSure() {
            int most = 0;
            for (int first = 0; first < number; first++) {
                int together = 1;
                int left = clashing[first];
                for (int i = 0; i < number; i++) {
                    if ((left >> i & 1) == 1) {
                        together++;
                        left &= clashing[i];
                    }
                }
                most = Math.max(most, together);
            }
            return most;
        }

        private void gather() {
            number = 0;
            for (int i = 0; i < records.count && number < MOST_DEALT; i++) {
                if (records.counts[i]) {
                    dealt[number] = i;
                    number++;
                }
            }
            for (int i = 0; i < number; i++) {
                clashing[i] = 0;
                for (int j = 0; j < number; j++) {
                    clashing[i] |= differ(dealt[i], dealt[j]) ? 1 << j : 0;
                }
            }
        }

        /**
         * Deals those from one on to PERSONS below a limit. The least PERSON is tried first,
         * and of those not used yet the first alone, so the first row that fits is the least.
         */
        private boolean deal(int from, int used, int limit) {
            if (from >= number) {
                return true;
            }
            int most = Math.min(used + 1, limit);
            for (int p = 0; p < most; p++) {
                if ((members[p] & clashing[from]) != 0) {
                    continue;
                }
                members[p] |= 1 << from;
                person[from] = p;
                if (deal(from + 1, Math.max(used, p + 1), limit)) {
                    return true;
                }
                members[p] &= ~(1 << from);
            }
            return false;
        }

        int personOf(int record) {
            for (int i = 0; i < number; i++) {
                if (dealt[i] == record) {
                    return person[i];
                }
            }
            return NONE;
        }
    }

    /** Rows of numbers of a FORM; a LOST one has the FORM NONE. */
    private static final class Sheets {
        static final int MOST = 4, MOST_ITEMS = 60;
        static final int BYTES = 0, SHORTS = 1, INTS = 2;
        static final int NULL = 1, INDEX = 2, CAST = 3, STORE = 4, SIZE = 5;

        final int[] forms;
        final int[] sizes;
        final int[][] items;
        int latest;

        Sheets() {
            forms = new int[MOST];
            sizes = new int[MOST];
            items = new int[MOST][MOST_ITEMS];
            Arrays.fill(forms, NONE);
        }

        boolean holds(int s) {
            return s >= 0 && s < MOST;
        }

        static boolean isForm(int form) {
            return form >= BYTES && form <= INTS;
        }

        boolean isLost(int s) {
            return forms[s] == NONE;
        }

        int finding(int number) {
            latest = number;
            return -10 - number;
        }

        void renew(int s, int form, int n) {
            forms[s] = form;
            sizes[s] = n;
            Arrays.fill(items[s], 0);
        }

        /** 0: none. */
        int faultOf(int s, int form, int i) {
            if (isLost(s)) {
                return NULL;
            }
            if (forms[s] != form) {
                return CAST;
            }
            return i < 0 || i >= sizes[s] ? INDEX : 0;
        }

        boolean spans(int s, int i, int n) {
            return n >= 0 && i >= 0 && i <= sizes[s] - n;
        }

        int item(int s, int i) {
            return items[s][i];
        }

        void put(int s, int i, int v) {
            if (forms[s] == BYTES) {
                items[s][i] = (byte) v;
            } else if (forms[s] == SHORTS) {
                items[s][i] = (short) v;
            } else {
                items[s][i] = v;
            }
        }
    }
}
