/** Boundary cases of records (section 3, promises 17 to 25): one test for each sentence that names one. */
public final class BoundaryRecordsTest {
    private static final Check C = new Check();
    private static final int MANY = Integer.MAX_VALUE, FEW = Integer.MIN_VALUE;
    private static final int[] NO_BIT = {-1, 2, MANY, FEW};
    private static ThroughOthers x;

    public static void main(String[] args) {
        atMost24();
        days();
        daysOfTakingBack();
        bringers();
        kindsOfRecords();
        knows();
        bringsThree();
        cameRefused();
        fullAheadOfNot();
        takenBackAlready();
        takeBackRefused();
        eachCanBeTakenBack();
        toldUpToThen();
        notTakenBackUpToThen();
        bringerCounts();
        waveOf();
        treeOf();
        fromAWave();
        recordDetails();
        recordRefused();
        nobodyIsTaken();
        plainOfOne();
        byTiesOfThoseThatTold();
        byBringingNotThere();
        byBringingZero();
        shareRefused();
        boundsOneAtLeast();
        boundsUpToR();
        boundsNot();
        leavingTwoTrees();
        leavingNotEachTime();
        leavingRefused();
        alikeOwnKind();
        chanceFull();
        chanceCut();
        chanceAsManyOrMore();
        alikeRefused();
        forgotWaves();
        forgotNotThere();
        forgotBothZero();
        forgotRefused();
        waves();
        C.end();
    }

    private static void fresh() {
        x = new ThroughOthers();
    }

    /** So many, each brought by the one ahead of it. */
    private static void row(int records) {
        fresh();
        for (int i = 0; i < records; i++) x.came(i - 1, 0, 1, 0);
    }

    private static void seeds(int records) {
        fresh();
        for (int i = 0; i < records; i++) x.came(-1, 0, 1, 0);
    }

    private static void share(int how, long above, long below) {
        C.fraction("share(" + how + ")", x.share(how, 0), x.share(how, 1), above, below);
    }

    private static void shareNot(int how) {
        for (int what = 0; what < 2; what++) C.due("share(" + how + ", " + what + ")", x.share(how, what), Check.NOT);
    }

    private static void bounds(int r, int end, long above, long below) {
        C.fraction("bounds(" + r + ", " + end + ")", x.bounds(r, end, 0), x.bounds(r, end, 1), above, below);
    }

    private static void leaving(int end, long above, long below) {
        C.fraction("leaving(" + end + ")", x.leaving(end, 0), x.leaving(end, 1), above, below);
    }

    private static void leavingNot() {
        for (int end = 0; end < 2; end++) for (int what = 0; what < 2; what++) C.due("leaving", x.leaving(end, what), Check.NOT);
    }

    private static void forgot(int k, long above, long below) {
        C.fraction("forgot(" + k + ")", x.forgot(k, 0), x.forgot(k, 1), above, below);
    }

    private static void forgotNot(int k) {
        for (int what = 0; what < 2; what++) C.due("forgot(" + k + ", " + what + ")", x.forgot(k, what), Check.NOT);
    }

    private static void atMost24() {
        C.sentence("RECORDS, 24 at most");
        fresh();
        for (int i = 0; i < 24; i++) {
            C.due("how many", x.count(3), i);
            C.due("its number", x.came(-1, 0, 1, 0), i);
        }
        C.due("the last is there", x.record(23, 4), 1);
        C.due("one more", x.came(-1, 0, 1, 0), -4);
        x.takeBack(0, 0);
        C.due("one TAKEN BACK is still a RECORD", x.came(-1, 0, 1, 0), -4);
        C.due("RECORDS", x.count(3), 24);
        C.due("none behind the last", x.record(24, 0), -5);
    }

    private static void days() {
        C.sentence("one came on a DAY (0 to 99; not less than the one ahead told, of taking back, too)");
        fresh();
        for (int day : new int[] {-1, 100, MANY, FEW}) C.due("DAY " + day, x.came(-1, 0, 1, day), -2);
        C.due("the first DAY", x.came(-1, 0, 1, 0), 0);
        C.due("the same", x.came(-1, 0, 1, 0), 1);
        C.due("a later one", x.came(-1, 0, 1, 98), 2);
        C.due("one less", x.came(-1, 0, 1, 97), -2);
        C.due("the same again", x.came(-1, 0, 1, 98), 3);
        C.due("the last DAY", x.came(-1, 0, 1, 99), 4);
        C.due("the last DAY again", x.came(-1, 0, 1, 99), 5);
        C.due("one less than the last", x.came(-1, 0, 1, 98), -2);
        C.due("DAY of it", x.record(5, 3), 99);
    }

    private static void daysOfTakingBack() {
        C.sentence("not less than the one ahead told, of taking back, too");
        fresh();
        x.came(-1, 0, 1, 10);
        x.came(-1, 0, 1, 10);
        C.due("back on a DAY less", x.takeBack(0, 9), -2);
        C.due("back on the same DAY", x.takeBack(0, 10), 1);
        C.due("back later", x.takeBack(1, 12), 1);
        C.due("came on a DAY less than that", x.came(-1, 0, 1, 11), -2);
        C.due("came on that DAY", x.came(-1, 0, 1, 12), 2);
        C.due("a refused call tells no DAY", x.takeBack(0, 50), -3);
        C.due("so 13 is not less", x.came(-1, 0, 1, 13), 3);
        C.due("nor does a BAD one", x.takeBack(9, 60), -2);
        C.due("so 14 is not less", x.takeBack(3, 14), 1);
    }

    private static void bringers() {
        C.sentence("by the coupon of one told ahead (its BRINGER; NONE: a SEED)");
        fresh();
        for (int by : new int[] {0, 1, -2, MANY, FEW}) C.due("by " + by, x.came(by, 0, 1, 0), -2);
        C.due("a SEED", x.came(-1, 0, 1, 0), 0);
        C.due("by itself", x.came(1, 0, 1, 0), -2);
        C.due("by the one ahead", x.came(0, 0, 1, 0), 1);
        C.due("BRINGER of the SEED", x.record(0, 0), -1);
        C.due("BRINGER of the other", x.record(1, 0), 0);
        x.takeBack(0, 0);
        C.due("by one TAKEN BACK, which was told, too", x.came(0, 0, 1, 0), 2);
        C.due("does not COUNT", x.record(2, 4), 0);
    }

    private static void kindsOfRecords() {
        C.sentence("of a KIND (0, 1), says to KNOW");
        fresh();
        for (int kind : NO_BIT) C.due("KIND " + kind, x.came(-1, kind, 1, 0), -2);
        C.due("KIND 0", x.came(-1, 0, 1, 0), 0);
        C.due("KIND 1", x.came(-1, 1, 1, 0), 1);
        C.due("told 0", x.record(0, 1), 0);
        C.due("told 1", x.record(1, 1), 1);
    }

    private static void knows() {
        C.sentence("says to KNOW so many others (1 to 20, or not told: -1)");
        fresh();
        for (int knows : new int[] {0, 21, -2, MANY, FEW}) C.due("KNOWS " + knows, x.came(-1, 0, knows, 0), -2);
        int[] good = {1, 20, -1};
        for (int i = 0; i < 3; i++) {
            C.due("KNOWS " + good[i], x.came(-1, 0, good[i], 0), i);
            C.due("told", x.record(i, 2), good[i]);
        }
    }

    private static void bringsThree() {
        C.sentence("Each brings 3 at most.");
        seeds(2);
        for (int i = 0; i < 3; i++) {
            C.due("brought so far", x.record(0, 7), i);
            C.due("one more", x.came(0, 0, 1, 0), i + 2);
        }
        C.due("a fourth", x.came(0, 0, 1, 0), -3);
        C.due("by another", x.came(1, 0, 1, 0), 5);
        for (int i = 2; i < 5; i++) x.takeBack(i, 1);
        C.due("those TAKEN BACK were brought, too", x.came(0, 0, 1, 1), -3);
        C.due("all that were told", x.record(0, 7), 3);
    }

    private static void cameRefused() {
        C.sentence("A RECORD more: its number. BAD: also a DAY less than the one before");
        fresh();
        C.due("number 0", x.came(-1, 1, 7, 30), 0);
        int[][] bad = {{1, 0, 1, 30}, {-2, 0, 1, 30}, {-1, 2, 1, 30}, {-1, -1, 1, 30}, {-1, 0, 0, 30},
            {-1, 0, 21, 30}, {-1, 0, -2, 30}, {-1, 0, 1, 29}, {-1, 0, 1, 100}, {-1, 0, 1, -1}};
        for (int[] b : bad) {
            C.due("came(" + b[0] + ", " + b[1] + ", " + b[2] + ", " + b[3] + ")", x.came(b[0], b[1], b[2], b[3]), -2);
            C.due("no RECORD more", x.count(3), 1);
            C.due("none brought", x.record(0, 7), 0);
        }
        C.due("number 1", x.came(0, 0, 1, 30), 1);
    }

    private static void fullAheadOfNot() {
        C.sentence("NOT: its BRINGER has brought 3; FULL, ahead of that.");
        seeds(1);
        for (int i = 1; i <= 3; i++) x.came(0, 0, 1, 0);
        C.due("NOT, with room", x.came(0, 0, 1, 0), -3);
        C.due("BAD ahead of NOT", x.came(0, 0, 1, 100), -2);
        for (int i = 4; i < 24; i++) x.came(-1, 0, 1, 5);
        C.due("FULL ahead of NOT", x.came(0, 0, 1, 5), -4);
        C.due("FULL", x.came(-1, 0, 1, 5), -4);
        C.due("BAD ahead of FULL: DAY", x.came(0, 0, 1, 4), -2);
        C.due("BAD ahead of FULL: BRINGER", x.came(24, 0, 1, 5), -2);
        C.due("BAD ahead of FULL: KIND", x.came(0, 2, 1, 5), -2);
        C.due("BAD ahead of FULL: KNOWS", x.came(0, 0, 0, 5), -2);
    }

    private static void takenBackAlready() {
        C.sentence("BAD: likewise; NOT: it is already.");
        seeds(2);
        C.due("back", x.takeBack(0, 5), 1);
        C.due("already", x.takeBack(0, 5), -3);
        C.due("already, later", x.takeBack(0, 99), -3);
        C.due("BAD ahead of NOT: DAY", x.takeBack(0, 4), -2);
        C.due("BAD ahead of NOT: DAY above", x.takeBack(0, 100), -2);
        x.set(2, 4);
        C.due("it COUNTS as of 4", x.record(0, 4), 1);
        C.due("already, in spite of AS OF", x.takeBack(0, 6), -3);
        C.due("the other is not", x.takeBack(1, 5), 1);
    }

    private static void takeBackRefused() {
        C.sentence("A RECORD is TAKEN BACK on a DAY: 1.");
        seeds(24);
        for (int r : new int[] {-1, 24, MANY, FEW}) C.due("RECORD " + r, x.takeBack(r, 0), -2);
        for (int day : new int[] {-1, 100, MANY, FEW}) C.due("DAY " + day, x.takeBack(0, day), -2);
        C.due("all COUNT", x.count(4), 24);
        C.due("the last, on the first DAY", x.takeBack(23, 0), 1);
        C.due("the first, on the last DAY", x.takeBack(0, 99), 1);
        C.due("two fewer", x.count(4), 22);
        fresh();
        C.due("none is there", x.takeBack(0, 0), -2);
    }

    private static void eachCanBeTakenBack() {
        C.sentence("Each can be TAKEN BACK on a DAY.");
        row(24);
        for (int r = 23; r >= 0; r--) {
            C.due("back, from the last on", x.takeBack(r, 23 - r), 1);
            C.due("those left", x.count(4), r);
        }
        row(2);
        x.takeBack(0, 0);
        C.due("one that does not COUNT", x.takeBack(1, 0), 1);
    }

    private static void toldUpToThen() {
        C.sentence("AS OF a DAY (99 at first) those COUNT that were told up to then");
        fresh();
        x.came(-1, 0, 1, 0);
        x.came(-1, 0, 1, 50);
        x.came(-1, 0, 1, 99);
        C.due("all at first", x.count(4), 3);
        int[][] due = {{0, 1}, {49, 1}, {50, 2}, {98, 2}, {99, 3}};
        for (int[] d : due) {
            x.set(2, d[0]);
            C.due("as of " + d[0], x.count(4), d[1]);
            C.due("the third as of " + d[0], x.record(2, 4), d[0] == 99 ? 1 : 0);
        }
        x.set(2, 0);
        x.came(-1, 0, 1, 99);
        C.due("told later than AS OF", x.record(3, 4), 0);
    }

    private static void notTakenBackUpToThen() {
        C.sentence("not taken back up to then");
        fresh();
        x.came(-1, 0, 1, 10);
        x.came(-1, 0, 1, 10);
        x.takeBack(1, 10);
        x.takeBack(0, 20);
        int[][] due = {{9, 0, 0}, {10, 1, 0}, {19, 1, 0}, {20, 0, 0}, {99, 0, 0}};
        for (int[] d : due) {
            x.set(2, d[0]);
            C.due("back on 20, as of " + d[0], x.record(0, 4), d[1]);
            C.due("back on the DAY it came, as of " + d[0], x.record(1, 4), d[2]);
        }
        seeds(1);
        x.takeBack(0, 99);
        C.due("back on the last DAY", x.count(4), 0);
    }

    private static void bringerCounts() {
        C.sentence("and whose BRINGER COUNTS");
        row(24);
        C.due("all", x.count(4), 24);
        x.takeBack(12, 3);
        C.due("those behind one", x.count(4), 12);
        C.due("the last", x.record(23, 4), 0);
        x.takeBack(0, 4);
        C.due("none", x.count(4), 0);
        C.due("no TREES", x.count(5), 0);
        x.set(2, 3);
        C.due("as of then", x.count(4), 12);
        x.set(2, 2);
        C.due("as of before", x.count(4), 24);
    }

    private static void waveOf() {
        C.sentence("WAVE of one: 0 for a SEED, else one more than its BRINGER's.");
        row(24);
        for (int r = 0; r < 24; r++) C.due("WAVE of " + r, x.record(r, 5), r);
        seeds(24);
        for (int r = 0; r < 24; r++) C.due("WAVE of SEED " + r, x.record(r, 5), 0);
    }

    private static void treeOf() {
        C.sentence("Its TREE: the SEED from which it comes.");
        row(23);
        x.came(-1, 0, 1, 0);
        C.due("the last of a row", x.record(22, 6), 0);
        C.due("a SEED", x.record(23, 6), 23);
        C.due("TREES", x.count(5), 2);
        x.takeBack(0, 0);
        C.due("TREE of one that does not COUNT", x.record(22, 6), 0);
        C.due("TREES that COUNT", x.count(5), 1);
    }

    private static void fromAWave() {
        C.sentence("FROM a WAVE on (0 to 9; 0 at first): only those of that WAVE or later are taken into shares (TAKEN).");
        fresh();
        for (int r = 0; r < 12; r++) x.came(r - 1, r == 9 ? 1 : 0, r + 1, 0);
        share(0, 1, 12);
        x.set(3, 8);
        share(0, 1, 4);
        x.set(3, 9);
        share(0, 1, 3);
        // 1 by 10 of 1 by 10, 11, 12.
        share(1, 66, 181);
        C.due("those that COUNT are as many", x.count(4), 12);
        C.due("WAVE 0, too", x.wave(0), 1);
        x.takeBack(9, 0);
        shareNot(0);
        x.set(3, 8);
        share(0, 0, 1);
    }

    private static void recordDetails() {
        C.sentence("5 WAVE, 6 TREE, 7 how many it brought (all that were told)");
        fresh();
        x.came(-1, 1, -1, 99);
        int[] first = {-1, 1, -1, 99, 1, 0, 0, 0};
        for (int what = 0; what < 8; what++) C.due("record(0, " + what + ")", x.record(0, what), first[what]);
        for (int i = 0; i < 3; i++) x.came(0, 0, 20, 99);
        x.takeBack(0, 99);
        int[] then = {-1, 1, -1, 99, 0, 0, 0, 3};
        for (int what = 0; what < 8; what++) C.due("then record(0, " + what + ")", x.record(0, what), then[what]);
    }

    private static void recordRefused() {
        C.sentence("(all that were told). BAD: -5.");
        fresh();
        for (int what = 0; what < 8; what++) C.due("none is there", x.record(0, what), -5);
        seeds(3);
        for (int r : new int[] {-1, 3, MANY, FEW}) C.due("RECORD " + r, x.record(r, 0), -5);
        for (int what : new int[] {-1, 8, MANY, FEW}) C.due("what " + what, x.record(0, what), -5);
    }

    private static void nobodyIsTaken() {
        C.sentence("BAD; NOT: nobody is TAKEN so.");
        fresh();
        for (int how = 0; how < 3; how++) shareNot(how);
        // Each way it would be there, but for FROM, AS OF or TAKING BACK.
        x.came(-1, 0, 1, 1);
        x.came(0, 1, 1, 1);
        x.came(1, 0, 1, 1);
        share(0, 1, 3);
        share(1, 1, 3);
        share(2, 1, 2);
        x.set(3, 3);
        for (int how = 0; how < 3; how++) shareNot(how);
        x.set(3, 0);
        x.set(2, 0);
        for (int how = 0; how < 3; how++) shareNot(how);
        x.set(2, 99);
        x.takeBack(0, 1);
        for (int how = 0; how < 3; how++) shareNot(how);
    }

    private static void plainOfOne() {
        C.sentence("PLAIN: the share of KIND 1 among TAKEN ones.");
        fresh();
        x.came(-1, 1, -1, 0);
        share(0, 1, 1);
        for (int i = 1; i < 24; i++) x.came(-1, 0, -1, 0);
        share(0, 1, 24);
        x.takeBack(0, 0);
        share(0, 0, 1);
    }

    private static void byTiesOfThoseThatTold() {
        C.sentence("BY TIES: of TAKEN ones that told what they KNOW, each counted by 1 by that");
        fresh();
        x.came(-1, 1, -1, 0);
        shareNot(1);
        x.came(-1, 1, 20, 0);
        share(1, 1, 1);
        x.came(-1, 0, 1, 0);
        share(1, 1, 21);
        x.takeBack(1, 0);
        share(1, 0, 1);
        x.takeBack(2, 0);
        shareNot(1);
        share(0, 1, 1);
    }

    private static void byBringingNotThere() {
        C.sentence("NOT: one of these is not there, or it is 0 by 0.");
        seeds(1);
        shareNot(2);                        // nobody was brought
        x.came(0, 1, 1, 0);
        shareNot(2);                        // Q: nobody was brought by KIND 1
        fresh();
        x.came(-1, 1, 1, 0);
        x.came(0, 0, 1, 0);
        shareNot(2);                        // P: nobody was brought by KIND 0
        int[][] untold = {{-1, 1, -1}, {1, -1, 1}};
        for (int[] knows : untold) {        // T, U: nobody of that KIND told
            fresh();
            x.came(-1, 0, knows[0], 0);
            x.came(0, 1, knows[1], 0);
            x.came(1, 0, knows[2], 0);
            shareNot(2);
        }
        fresh();                            // P and Q are 0
        x.came(-1, 0, 1, 0);
        x.came(-1, 1, 1, 0);
        x.came(0, 0, 1, 0);
        x.came(1, 1, 1, 0);
        shareNot(2);
    }

    private static void byBringingZero() {
        C.sentence("P T by (P T and Q U)");
        fresh();                            // P 0, Q 1
        x.came(-1, 0, 1, 0);
        x.came(-1, 1, 1, 0);
        x.came(0, 0, 1, 0);
        x.came(1, 0, 1, 0);
        share(2, 0, 1);
        fresh();                            // P 1, Q 0
        x.came(-1, 0, 1, 0);
        x.came(-1, 1, 1, 0);
        x.came(0, 1, 1, 0);
        x.came(1, 1, 1, 0);
        share(2, 1, 1);
        fresh();                            // P 1, Q 1, T 1, U 20
        x.came(-1, 0, 1, 0);
        x.came(0, 1, 20, 0);
        x.came(1, 0, -1, 0);
        share(2, 1, 21);
    }

    private static void shareRefused() {
        C.sentence("PLAIN (how = 0), BY TIES (1), BY BRINGING (2): above, below. BAD; NOT: nobody is TAKEN so.");
        fresh();
        for (int some = 0; some < 2; some++) {
            for (int how : new int[] {-1, 3, MANY, FEW}) C.due("how " + how, x.share(how, 0), Check.BAD);
            for (int how = 0; how < 3; how++) for (int what : NO_BIT) C.due("what " + what, x.share(how, what), Check.BAD);
            x.came(-1, 0, 1, 0);
        }
    }

    private static void boundsOneAtLeast() {
        C.sentence("more or fewer than it said (1 at least)");
        fresh();
        x.came(-1, 1, 1, 0);
        x.came(-1, 0, 1, 0);
        for (int r = 0; r <= 5; r++) {
            bounds(r, 0, 1, r + 2);
            bounds(r, 1, r + 1, r + 2);
        }
        fresh();
        x.came(-1, 1, 6, 0);
        x.came(-1, 0, 5, 0);
        bounds(4, 0, 1, 11);                // 10 and 1
        bounds(5, 0, 1, 12);                // 11 and 1, not 0
        bounds(5, 1, 10, 11);               // 1 and 10
        fresh();
        x.came(-1, 1, 20, 0);
        x.came(-1, 0, 20, 0);
        bounds(5, 0, 3, 8);                 // 25 and 15
        bounds(5, 1, 5, 8);
    }

    private static void boundsUpToR() {
        C.sentence("BOUNDS of BY TIES, if each KNOWS up to r (0 to 5)");
        fresh();
        x.came(-1, 1, 7, 0);
        x.came(-1, 1, -1, 0);
        for (int end = 0; end < 2; end++) bounds(5, end, 1, 1);
        x.came(-1, 0, 9, 0);
        for (int end = 0; end < 2; end++) bounds(0, end, 9, 16);
        bounds(5, 0, 1, 4);                 // 12 and 4
        bounds(5, 1, 7, 8);                 // 2 and 14
        for (int r : new int[] {-1, 6, MANY, FEW}) C.due("r " + r, x.bounds(r, 0, 0), Check.BAD);
        x.takeBack(0, 0);
        for (int end = 0; end < 2; end++) bounds(5, end, 0, 1);
    }

    private static void boundsNot() {
        C.sentence("BOUNDS: the least (end = 0), the greatest (1): above, below. BAD; NOT: as BY TIES.");
        fresh();
        for (int round = 0; round < 3; round++) {
            for (int end : NO_BIT) C.due("end " + end, x.bounds(0, end, 0), Check.BAD);
            for (int what : NO_BIT) C.due("what " + what, x.bounds(0, 0, what), Check.BAD);
            for (int r : new int[] {-1, 6, MANY, FEW}) C.due("r " + r, x.bounds(r, 1, 1), Check.BAD);
            for (int r = 0; r <= 5; r++) C.due("NOT", x.bounds(r, r % 2, r / 2 % 2), Check.NOT);
            x.came(-1, 1, -1, 0);
        }
        x.came(-1, 1, 1, 0);
        bounds(0, 0, 1, 1);
        x.set(3, 1);
        C.due("from 1", x.bounds(0, 0, 0), Check.NOT);
    }

    private static void leavingTwoTrees() {
        C.sentence("LEAVING one TREE out (two TREES at least among those that COUNT)");
        fresh();
        leavingNot();
        x.came(-1, 1, 1, 0);
        leavingNot();
        for (int i = 0; i < 3; i++) x.came(0, 0, 1, 0);
        leavingNot();
        x.came(-1, 0, 1, 1);
        leaving(0, 0, 1);
        leaving(1, 1, 4);
        x.set(2, 0);
        leavingNot();
        x.set(2, 99);
        x.takeBack(0, 1);
        leavingNot();
        seeds(23);
        x.came(-1, 1, 20, 0);
        leaving(0, 0, 1);
        leaving(1, 1, 441);                 // 1 by 20 of 22 and 1 by 20
    }

    private static void leavingNotEachTime() {
        C.sentence("NOT: fewer than two TREES, or BY TIES is NOT each time.");
        fresh();
        x.came(-1, 1, -1, 0);
        x.came(-1, 1, -1, 0);
        leavingNot();
        x.came(0, 1, 3, 0);
        leaving(0, 1, 1);                   // without the other TREE; without its own it is NOT
        leaving(1, 1, 1);
        x.set(3, 1);
        leaving(0, 1, 1);
        x.set(3, 2);
        leavingNot();
    }

    private static void leavingRefused() {
        C.sentence("LEAVING: the least (end = 0), the greatest (1): above, below. BAD; NOT:");
        fresh();
        for (int round = 0; round < 3; round++) {
            for (int end : NO_BIT) C.due("end " + end, x.leaving(end, 0), Check.BAD);
            for (int what : NO_BIT) C.due("what " + what, x.leaving(0, what), Check.BAD);
            x.came(-1, 1, 1, 0);
        }
    }

    private static void alikeOwnKind() {
        C.sentence("ALIKE: how many that COUNT have a BRINGER of their own KIND.");
        fresh();
        C.due("none", x.alike(0), 0);
        row(24);
        C.due("all but the SEED", x.alike(0), 23);
        x.takeBack(1, 0);
        C.due("the SEED alone", x.alike(0), 0);
        seeds(24);
        C.due("SEEDS have none", x.alike(0), 0);
        fresh();
        for (int i = 0; i < 24; i++) x.came(i - 1, i % 2, 1, 0);
        C.due("each unlike its own", x.alike(0), 0);
    }

    private static void chanceFull() {
        C.sentence("dealt over all that COUNT (14 at most: FULL)");
        row(14);
        C.due("14", x.alike(1), 1000000);
        x.came(13, 0, 1, 1);
        C.due("15", x.alike(1), -4);
        C.due("15, ALIKE", x.alike(0), 14);
        x.set(2, 0);
        C.due("14 as of then", x.alike(1), 1000000);
        x.set(2, 99);
        x.takeBack(14, 1);
        C.due("14 again", x.alike(1), 1000000);
        for (int i = 0; i < 9; i++) x.came(-1, 0, 1, 1);
        C.due("23 that COUNT", x.alike(1), -4);
        x.takeBack(0, 1);
        C.due("9 that COUNT", x.alike(1), 1000000);
    }

    private static void chanceCut() {
        C.sentence("in millionths, cut (if none COUNTS 1000000)");
        fresh();
        C.due("none", x.alike(1), 1000000);
        x.came(-1, 0, 1, 0);
        C.due("one", x.alike(1), 1000000);
        x.came(0, 0, 1, 0);
        x.came(0, 1, 1, 0);
        C.due("two thirds", x.alike(1), 666666);
        x.takeBack(0, 0);
        C.due("none COUNTS", x.alike(1), 1000000);
        // In one row of 14 the KINDS change once: of 3432 deals just 2 are as good.
        fresh();
        for (int i = 0; i < 14; i++) x.came(i - 1, i < 7 ? 1 : 0, 1, 0);
        C.due("2 of 3432", x.alike(1), 582);
    }

    private static void chanceAsManyOrMore() {
        C.sentence("the share by which as many are ALIKE or more");
        fresh();
        for (int i = 0; i < 14; i++) x.came(i - 1, i % 2, 1, 0);
        C.due("none is ALIKE: each deal has as many", x.alike(1), 1000000);
        fresh();
        for (int i = 0; i < 14; i++) x.came(i - 1, 1, 1, 0);
        C.due("all of KIND 1: there is one deal", x.alike(1), 1000000);
        fresh();
        for (int i = 0; i < 4; i++) x.came(i - 1, i == 3 ? 1 : 0, 1, 0);
        C.due("at an end, as in 2 of 4 deals", x.alike(1), 500000);
    }

    private static void alikeRefused() {
        C.sentence("ALIKE (what = 0), CHANCE (1). BAD; FULL (1 alone).");
        seeds(14);
        for (int round = 0; round < 2; round++) {
            for (int what : NO_BIT) C.due("what " + what, x.alike(what), -2);
            C.due("0 is never FULL", x.alike(0), 0);
            C.due("1", x.alike(1), round == 0 ? 1000000 : -4);
            x.came(-1, 0, 1, 0);
        }
    }

    private static void forgotWaves() {
        C.sentence("the share of KIND 1 in WAVE k (0 to 6), from SEEDS of KIND 0 alone, a FRACTION; in the end P by (P and Q)");
        fresh();                            // P 1, Q 1
        x.came(-1, 0, 1, 0);
        x.came(0, 1, 1, 0);
        x.came(1, 0, 1, 0);
        for (int k = 0; k <= 6; k++) forgot(k, k % 2, 1);
        forgot(-1, 1, 2);
        fresh();                            // P 1, Q 0
        x.came(-1, 0, 1, 0);
        x.came(0, 1, 1, 0);
        x.came(1, 1, 1, 0);
        forgot(0, 0, 1);
        for (int k = 1; k <= 6; k++) forgot(k, 1, 1);
        forgot(-1, 1, 1);
        fresh();                            // P 0, Q 1
        x.came(-1, 0, 1, 0);
        x.came(-1, 1, 1, 0);
        x.came(0, 0, 1, 0);
        x.came(1, 0, 1, 0);
        for (int k = -1; k <= 6; k++) forgot(k, 0, 1);
    }

    private static void forgotNotThere() {
        C.sentence("NOT: P, or Q, is not there");
        fresh();
        for (int k = -1; k <= 6; k++) forgotNot(k);
        x.came(-1, 0, 1, 0);
        x.came(0, 1, 1, 0);
        for (int k = -1; k <= 6; k++) forgotNot(k);
        x.came(1, 0, 1, 0);
        forgot(0, 0, 1);
        x.set(3, 2);                        // the one brought by KIND 0 is not TAKEN
        for (int k = -1; k <= 6; k++) forgotNot(k);
        x.set(3, 0);
        x.takeBack(2, 0);
        for (int k = -1; k <= 6; k++) forgotNot(k);
    }

    private static void forgotBothZero() {
        C.sentence("in the end also both 0");
        fresh();
        x.came(-1, 0, 1, 0);
        x.came(-1, 1, 1, 0);
        x.came(0, 0, 1, 0);
        x.came(1, 1, 1, 0);
        forgotNot(-1);
        for (int k = 0; k <= 6; k++) forgot(k, 0, 1);
    }

    private static void forgotRefused() {
        C.sentence("FORGOT k (k = NONE: in the end): above, below. BAD; NOT:");
        fresh();
        for (int round = 0; round < 4; round++) {
            for (int k : new int[] {-2, 7, MANY, FEW}) C.due("k " + k, x.forgot(k, 0), Check.BAD);
            for (int k = -1; k <= 6; k++) for (int what : NO_BIT) C.due("what " + what, x.forgot(k, what), Check.BAD);
            x.came(round - 1, round % 2, 1, 0);
        }
    }

    private static void waves() {
        C.sentence("FAR WAVES: how many of a WAVE (0 to 23) COUNT. BAD.");
        fresh();
        for (int w = 0; w < 24; w++) C.due("none in " + w, x.wave(w), 0);
        for (int w : new int[] {-1, 24, MANY, FEW}) C.due("WAVE " + w, x.wave(w), -2);
        row(24);
        for (int w = 0; w < 24; w++) C.due("one in " + w, x.wave(w), 1);
        x.takeBack(23, 0);
        C.due("the last no more", x.wave(23), 0);
        C.due("the one ahead still", x.wave(22), 1);
        seeds(24);
        C.due("all in 0", x.wave(0), 24);
        C.due("none in 1", x.wave(1), 0);
    }
}
