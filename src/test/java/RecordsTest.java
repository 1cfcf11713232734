/** Promises 17 to 25. */
public final class RecordsTest {
    private static final Check C = new Check();
    private static final int MANY = Integer.MAX_VALUE, FEW = Integer.MIN_VALUE;
    private static ThroughOthers x;

    public static void main(String[] args) {
        came();
        cameFull();
        takeBack();
        record();
        asOf();
        plainAndTies();
        byBringing();
        bounds();
        leaving();
        leavingGreat();
        alike();
        forgot();
        waves();
        bad();
        C.end();
    }

    private static void came() {
        x = new ThroughOthers();
        int[][] bad = {{0, 0, 1, 0}, {-2, 0, 1, 0}, {MANY, 0, 1, 0}, {-1, 2, 1, 0}, {-1, -1, 1, 0}, {-1, 0, 0, 0},
            {-1, 0, 21, 0}, {-1, 0, -2, 0}, {-1, 0, FEW, 0}, {-1, 0, 1, -1}, {-1, 0, 1, 100}, {-1, 0, 1, FEW}};
        for (int[] b : bad) C.due("came(" + b[0] + ", " + b[1] + ", " + b[2] + ", " + b[3] + ")", x.came(b[0], b[1], b[2], b[3]), -2);
        C.due("no RECORD", x.count(3), 0);
        C.due("first", x.came(-1, 0, -1, 5), 0);
        C.due("a DAY less", x.came(-1, 0, 1, 4), -2);
        C.due("the same DAY", x.came(0, 1, 20, 5), 1);
        C.due("by itself", x.came(2, 1, 20, 5), -2);
        C.due("second brought", x.came(0, 1, 1, 6), 2);
        C.due("third brought", x.came(0, 1, 1, 7), 3);
        C.due("fourth brought", x.came(0, 1, 1, 50), -3);
        C.due("BAD ahead of NOT", x.came(0, 2, 1, 7), -2);
        C.due("a refused DAY is not told", x.came(1, 1, 1, 8), 4);
        C.due("taking back tells a DAY", x.takeBack(4, 20), 1);
        C.due("a DAY less than that", x.came(1, 1, 1, 19), -2);
        C.due("that DAY", x.came(4, 1, 1, 20), 5);
        C.due("its BRINGER does not COUNT", x.record(5, 4), 0);
        C.due("the last DAY", x.came(-1, 1, 1, 99), 6);
        C.due("RECORDS", x.count(3), 7);
    }

    private static void cameFull() {
        x = new ThroughOthers();
        x.came(-1, 0, 1, 0);
        for (int i = 1; i < 24; i++) C.due("came " + i, x.came((i - 1) / 3, 0, 1, 0), i);
        long before = x.digest();
        C.due("FULL", x.came(-1, 0, 1, 0), -4);
        C.due("FULL ahead of NOT", x.came(0, 0, 1, 0), -4);
        C.due("BAD ahead of FULL", x.came(24, 0, 1, 0), -2);
        C.due("nothing changed", x.digest(), before);
    }

    private static void takeBack() {
        x = new ThroughOthers();
        C.due("none there", x.takeBack(0, 0), -2);
        x.came(-1, 0, 1, 10);
        x.came(0, 0, 1, 11);
        C.due("none such", x.takeBack(2, 11), -2);
        C.due("none such", x.takeBack(-1, 11), -2);
        C.due("a DAY less", x.takeBack(0, 10), -2);
        C.due("a DAY above", x.takeBack(0, 100), -2);
        C.due("all COUNT", x.count(4), 2);
        C.due("taken back", x.takeBack(0, 12), 1);
        C.due("none COUNTS", x.count(4), 0);
        C.due("already", x.takeBack(0, 40), -3);
        C.due("BAD ahead of NOT", x.takeBack(0, 11), -2);
        C.due("a refused DAY is not told", x.takeBack(1, 13), 1);
        C.due("already, with another AS OF", x.set(2, 11), 99);
        C.due("both COUNT then", x.count(4), 2);
        C.due("already still", x.takeBack(0, 50), -3);
    }

    private static void record() {
        x = new ThroughOthers();
        x.came(-1, 1, -1, 3);
        x.came(-1, 0, 7, 4);
        x.came(1, 1, 20, 5);
        x.came(2, 0, 1, 6);
        x.takeBack(3, 7);
        int[][] due = {{-1, 1, -1, 3, 1, 0, 0, 0}, {-1, 0, 7, 4, 1, 0, 1, 1}, {1, 1, 20, 5, 1, 1, 1, 1}, {2, 0, 1, 6, 0, 2, 1, 0}};
        for (int r = 0; r < 4; r++) for (int what = 0; what < 8; what++) {
            C.due("record(" + r + ", " + what + ")", x.record(r, what), due[r][what]);
        }
        x.takeBack(2, 8);
        C.due("brought, all that were told", x.record(1, 7), 1);
        int[][] bad = {{4, 0}, {-1, 0}, {0, 8}, {0, -1}, {MANY, 0}, {0, FEW}};
        for (int[] b : bad) C.due("record(" + b[0] + ", " + b[1] + ")", x.record(b[0], b[1]), -5);
    }

    private static void asOf() {
        x = new ThroughOthers();
        x.came(-1, 0, 1, 10);
        x.came(0, 1, 1, 20);
        x.came(1, 1, 1, 30);
        x.takeBack(1, 40);
        int[][] due = {{9, 0}, {10, 1}, {19, 1}, {20, 2}, {30, 3}, {39, 3}, {40, 1}, {99, 1}, {0, 0}};
        for (int[] d : due) {
            x.set(2, d[0]);
            C.due("COUNT as of " + d[0], x.count(4), d[1]);
            C.due("TREES as of " + d[0], x.count(5), d[1] > 0 ? 1 : 0);
        }
    }

    private static void plainAndTies() {
        x = new ThroughOthers();
        for (int how = 0; how < 3; how++) C.due("share of none", x.share(how, 0), Check.NOT);
        x.came(-1, 1, -1, 0);
        C.fraction("PLAIN of one", x.share(0, 0), x.share(0, 1), 1, 1);
        C.due("BY TIES of none told", x.share(1, 0), Check.NOT);
        C.due("BOUNDS of none told", x.bounds(0, 0, 0), Check.NOT);
        x.came(0, 0, 4, 0);
        C.fraction("PLAIN", x.share(0, 0), x.share(0, 1), 1, 2);
        C.fraction("BY TIES", x.share(1, 0), x.share(1, 1), 0, 1);
        x.came(1, 1, 2, 0);
        x.came(2, 1, 20, 0);
        C.fraction("PLAIN of 4", x.share(0, 0), x.share(0, 1), 3, 4);
        C.fraction("BY TIES of 4", x.share(1, 0), x.share(1, 1), 11, 16);
        x.set(3, 2);
        C.fraction("PLAIN from 2", x.share(0, 0), x.share(0, 1), 1, 1);
        C.fraction("BY TIES from 2", x.share(1, 0), x.share(1, 1), 1, 1);
        x.set(3, 1);
        C.fraction("PLAIN from 1", x.share(0, 0), x.share(0, 1), 2, 3);
        x.set(3, 4);
        C.due("PLAIN from 4", x.share(0, 0), Check.NOT);
        C.due("PLAIN from 4, below", x.share(0, 1), Check.NOT);
        C.due("BY TIES from 4", x.share(1, 1), Check.NOT);
        C.due("COUNT in spite of FROM", x.count(4), 4);
        x.set(3, 0);
        x.takeBack(2, 0);
        C.fraction("PLAIN without two", x.share(0, 0), x.share(0, 1), 1, 2);
    }

    private static void byBringing() {
        x = new ThroughOthers();
        x.came(-1, 0, 2, 0);
        x.came(0, 1, 3, 0);
        C.due("Q is not there", x.share(2, 0), Check.NOT);
        x.came(0, 0, 6, 0);
        x.came(1, 1, -1, 0);
        // P 1/2, Q 0, so all is KIND 1.
        C.fraction("Q is 0", x.share(2, 0), x.share(2, 1), 1, 1);
        x.came(3, 0, -1, 0);
        // P 1/2, Q 1/2, T 2 by 2/3 is 3, U 1 by 1/3 is 3.
        C.fraction("BY BRINGING", x.share(2, 0), x.share(2, 1), 1, 2);
        x.came(0, 0, -1, 0);
        // P 1/3.
        C.fraction("P is a third", x.share(2, 0), x.share(2, 1), 2, 5);
        x.set(3, 1);
        // T 6: the SEED is not TAKEN, but those that it brought are.
        C.fraction("BY BRINGING from 1", x.share(2, 0), x.share(2, 1), 4, 7);
        x.set(3, 2);
        C.due("P is not there", x.share(2, 0), Check.NOT);
        x = new ThroughOthers();
        x.came(-1, 0, 1, 0);
        x.came(-1, 1, 1, 0);
        x.came(0, 0, 1, 0);
        x.came(1, 1, 1, 0);
        C.due("0 by 0", x.share(2, 0), Check.NOT);
        C.due("0 by 0 in the end", x.forgot(-1, 0), Check.NOT);
        C.fraction("both 0, in a WAVE", x.forgot(6, 0), x.forgot(6, 1), 0, 1);
        x = new ThroughOthers();
        x.came(-1, 0, 1, 0);
        x.came(0, 1, -1, 0);
        x.came(1, 0, 1, 0);
        C.due("U is not there", x.share(2, 1), Check.NOT);
        x = new ThroughOthers();
        x.came(-1, 0, -1, 0);
        x.came(0, 1, 1, 0);
        x.came(1, 0, -1, 0);
        C.due("T is not there", x.share(2, 1), Check.NOT);
    }

    private static void bounds() {
        x = new ThroughOthers();
        x.came(-1, 1, 3, 0);
        x.came(-1, 0, 2, 0);
        x.came(-1, 0, -1, 0);
        C.fraction("no r", x.bounds(0, 0, 0), x.bounds(0, 0, 1), 2, 5);
        C.fraction("no r, greatest", x.bounds(0, 1, 0), x.bounds(0, 1, 1), 2, 5);
        C.fraction("1, least", x.bounds(1, 0, 0), x.bounds(1, 0, 1), 1, 5);
        C.fraction("1, greatest", x.bounds(1, 1, 0), x.bounds(1, 1, 1), 3, 5);
        // 1 at least: 3 - 5 and 2 - 5 become 1.
        C.fraction("5, least", x.bounds(5, 0, 0), x.bounds(5, 0, 1), 1, 9);
        C.fraction("5, greatest", x.bounds(5, 1, 0), x.bounds(5, 1, 1), 7, 8);
        x.came(-1, 0, 20, 0);
        C.fraction("up to 25", x.bounds(5, 1, 0), x.bounds(5, 1, 1), 175, 207);
        x.set(3, 1);
        C.due("none TAKEN", x.bounds(1, 0, 0), Check.NOT);
        C.due("BAD ahead", x.bounds(6, 0, 0), Check.BAD);
    }

    private static void leaving() {
        x = new ThroughOthers();
        C.due("no TREE", x.leaving(0, 0), Check.NOT);
        x.came(-1, 1, 2, 0);
        C.due("one TREE", x.leaving(0, 0), Check.NOT);
        x.came(0, 0, 2, 0);
        C.due("one TREE of two", x.leaving(1, 1), Check.NOT);
        x.came(-1, 1, -1, 0);
        // Without the first TREE nobody told; without the other one BY TIES is as it is.
        C.fraction("one time", x.leaving(0, 0), x.leaving(0, 1), 1, 2);
        C.fraction("one time, greatest", x.leaving(1, 0), x.leaving(1, 1), 1, 2);
        x.came(-1, 0, 4, 0);
        C.fraction("least", x.leaving(0, 0), x.leaving(0, 1), 0, 1);
        C.fraction("greatest", x.leaving(1, 0), x.leaving(1, 1), 1, 2);
        x.set(3, 1);
        // The others' WAVES are too early: only without those is one there.
        C.fraction("from 1", x.leaving(1, 0), x.leaving(1, 1), 0, 1);
        x.set(3, 2);
        C.due("NOT each time", x.leaving(1, 0), Check.NOT);
        x.set(3, 0);
        x.takeBack(2, 0);
        x.takeBack(3, 0);
        C.due("one TREE that COUNTS", x.leaving(0, 1), Check.NOT);
    }

    /** As great as the sums can be, against Reference. */
    private static void leavingGreat() {
        x = new ThroughOthers();
        Reference due = new Reference();
        int[] odd = {20, 19, 17, 16, 13, 11, 9, 7};
        for (int i = 0; i < 24; i++) {
            int knows = i < 16 ? 1 : odd[i - 16];
            x.came(-1, i % 2, knows, 0);
            due.came(-1, i % 2, knows, 0);
        }
        for (int end = 0; end < 2; end++) for (int what = 0; what < 2; what++) {
            C.due("great leaving", x.leaving(end, what), due.leaving(end, what));
            C.due("great bounds", x.bounds(5, end, what), due.bounds(5, end, what));
            C.due("great share", x.share(1, what), due.share(1, what));
        }
    }

    private static void alike() {
        x = new ThroughOthers();
        C.due("none", x.alike(0), 0);
        C.due("none, CHANCE", x.alike(1), 1000000);
        x.came(-1, 0, 1, 0);
        x.came(0, 1, 1, 0);
        x.came(0, 0, 1, 0);
        C.due("ALIKE", x.alike(0), 1);
        C.due("CHANCE, cut", x.alike(1), 666666);
        x.came(2, 0, 1, 0);
        C.due("ALIKE of 4", x.alike(0), 2);
        C.due("CHANCE of 4", x.alike(1), 500000);
        x.set(3, 9);
        C.due("in spite of FROM", x.alike(0), 2);
        x.takeBack(2, 0);
        C.due("ALIKE that COUNT", x.alike(0), 0);
        C.due("CHANCE that COUNT", x.alike(1), 1000000);
        for (int i = 0; i < 12; i++) x.came(-1, i % 2, 1, 0);
        C.due("14", x.count(4), 14);
        C.due("CHANCE of 14", x.alike(1), 1000000);
        x.came(1, 1, 1, 0);
        C.due("FULL", x.alike(1), -4);
        C.due("ALIKE is not FULL", x.alike(0), 1);
        C.due("BAD ahead of FULL", x.alike(2), -2);
        C.due("BAD", x.alike(-1), -2);
        x = new ThroughOthers();
        x.came(-1, 1, 1, 0);
        for (int i = 1; i < 14; i++) x.came(i - 1, i < 7 ? 1 : 0, 1, 0);
        // In one row of 14 the KINDS change once: of all 3432 deals just 2 do no worse.
        C.due("CHANCE of a row", x.alike(1), 582);
    }

    private static void forgot() {
        x = new ThroughOthers();
        C.due("P is not there", x.forgot(0, 0), Check.NOT);
        x.came(-1, 0, 1, 0);
        x.came(0, 1, 1, 0);
        x.came(0, 0, 1, 0);
        C.due("Q is not there", x.forgot(1, 0), Check.NOT);
        C.due("Q is not there in the end", x.forgot(-1, 0), Check.NOT);
        x.came(1, 0, 1, 0);
        // P 1/2, Q 1.
        int[][] due = {{0, 0, 1}, {1, 1, 2}, {2, 1, 4}, {3, 3, 8}, {4, 5, 16}, {5, 11, 32}, {6, 21, 64}, {-1, 1, 3}};
        for (int[] d : due) C.fraction("forgot(" + d[0] + ")", x.forgot(d[0], 0), x.forgot(d[0], 1), d[1], d[2]);
        x.set(3, 2);
        C.due("from 2 P is not there", x.forgot(2, 0), Check.NOT);
        C.due("BAD ahead of NOT", x.forgot(7, 0), Check.BAD);
        // As many as can be brought: 11 by one KIND, 12 by the other.
        x = new ThroughOthers();
        Reference ref = new Reference();
        for (int i = 0; i < 24; i++) {
            int by = i == 0 ? -1 : (i - 1) / 3;
            int kind = i * 5 % 7 < 3 ? 1 : 0;
            x.came(by, kind, 1, 0);
            ref.came(by, kind, 1, 0);
        }
        for (int k = -1; k < 7; k++) for (int what = 0; what < 2; what++) {
            C.due("great forgot " + k, x.forgot(k, what), ref.forgot(k, what));
        }
    }

    private static void waves() {
        x = new ThroughOthers();
        for (int i = 0; i < 24; i++) x.came(i - 1, 0, 1, i);
        for (int w = 0; w < 24; w++) C.due("wave(" + w + ")", x.wave(w), 1);
        C.due("wave BAD", x.wave(24), -2);
        C.due("wave BAD", x.wave(-1), -2);
        x.set(3, 9);
        C.due("in spite of FROM", x.wave(3), 1);
        C.fraction("PLAIN from 9", x.share(0, 0), x.share(0, 1), 0, 1);
        x.set(2, 11);
        C.due("told by then", x.wave(11), 1);
        C.due("not told by then", x.wave(12), 0);
        C.due("WAVE of one that does not COUNT", x.record(23, 5), 23);
        C.due("TREE of one that does not COUNT", x.record(23, 6), 0);
    }

    private static void bad() {
        x = new ThroughOthers();
        x.came(-1, 1, 1, 0);
        x.came(0, 0, 1, 0);
        long before = x.digest();
        for (int what : new int[] {-1, 2, MANY, FEW}) {
            C.due("share what", x.share(0, what), Check.BAD);
            C.due("bounds what", x.bounds(0, 0, what), Check.BAD);
            C.due("bounds end", x.bounds(0, what, 0), Check.BAD);
            C.due("leaving what", x.leaving(0, what), Check.BAD);
            C.due("leaving end", x.leaving(what, 0), Check.BAD);
            C.due("forgot what", x.forgot(0, what), Check.BAD);
        }
        for (int how : new int[] {-1, 3, MANY}) C.due("share how", x.share(how, 0), Check.BAD);
        for (int r : new int[] {-1, 6, MANY}) C.due("bounds r", x.bounds(r, 0, 0), Check.BAD);
        for (int k : new int[] {-2, 7, FEW}) C.due("forgot k", x.forgot(k, 0), Check.BAD);
        C.due("nothing changed", x.digest(), before);
        C.due("no finding", x.count(8), 0);
    }
}
