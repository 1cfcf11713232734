/** Boundary cases of chains and walks (section 2, promises 8 to 16): one test for each sentence that names one. */
public final class BoundaryChainsTest {
    private static final Check C = new Check();
    private static final int MANY = Integer.MAX_VALUE, FEW = Integer.MIN_VALUE;
    private static final int[] NO_BIT = {-1, 2, MANY, FEW};
    private static ThroughOthers x;

    public static void main(String[] args) {
        length();
        start();
        endsEarly();
        inIt();
        sizes();
        kinds();
        withinOrLess();
        startAlone();
        walkTimes();
        staysWithoutTies();
        lastingNot();
        strayedHalf();
        settings();
        settingsRefused();
        foundRefused();
        bothRefused();
        sizeRefused();
        kindsRefused();
        withinRefused();
        atRefused();
        lastingRefused();
        strayedRefused();
        C.end();
    }

    private static void fresh(int persons) {
        x = new ThroughOthers();
        x.persons(persons);
    }

    /** All in one row of TIES. */
    private static void row(int persons) {
        fresh(persons);
        for (int p = 0; p + 1 < persons; p++) x.tie(p, p + 1, true);
    }

    private static void complete(int persons) {
        fresh(persons);
        for (int a = 0; a < persons; a++) for (int b = 0; b < a; b++) x.tie(a, b, true);
    }

    private static void found(int person, long above, long below) {
        C.fraction("found(" + person + ")", x.found(person, 0), x.found(person, 1), above, below);
    }

    private static void size(int n, long above, long below) {
        C.fraction("size(" + n + ")", x.size(n, 0), x.size(n, 1), above, below);
    }

    private static void ofKind(int k, long above, long below) {
        C.fraction("kinds(" + k + ")", x.kinds(k, 0), x.kinds(k, 1), above, below);
    }

    private static void within(int e, long above, long below) {
        C.fraction("within(" + e + ")", x.within(e, 0), x.within(e, 1), above, below);
    }

    private static void at(int k, int person, long above, long below) {
        C.fraction("at(" + k + ", " + person + ")", x.at(k, person, 0), x.at(k, person, 1), above, below);
    }

    private static void strayed(int k, long above, long below) {
        C.fraction("strayed(" + k + ")", x.strayed(k, 0), x.strayed(k, 1), above, below);
    }

    private static void length() {
        C.sentence("A CHAIN of a LENGTH (1 to 7)");
        row(9);
        x.set(0, 0);
        for (int length = 1; length <= 7; length++) {
            C.due("set", x.set(1, length), length == 1 ? 4 : length - 1);
            size(length, 1, 1);
            found(length - 1, 1, 1);
            found(length, 0, 1);
        }
        complete(9);
        x.set(1, 1);
        size(1, 1, 1);
        found(8, 1, 9);
        C.fraction("both in a chain of one", x.both(0, 8, 0), x.both(0, 8, 1), 0, 1);
    }

    private static void start() {
        C.sentence("(START; NONE at first: each alike)");
        fresh(9);
        found(0, 1, 9);
        found(8, 1, 9);
        x.set(0, 8);
        found(0, 0, 1);
        found(8, 1, 1);
        x.set(0, -1);
        found(8, 1, 9);
        fresh(1);
        found(0, 1, 1);
    }

    private static void endsEarly() {
        C.sentence("it ENDS EARLY, if there is none");
        fresh(9);
        for (int p = 1; p < 9; p++) x.tie(0, p, true);
        x.set(1, 7);
        x.set(0, 0);
        size(2, 1, 1);
        found(8, 1, 8);
        x.set(0, 8);
        size(3, 1, 1);
        found(1, 1, 7);
        x.tie(0, 8, false);
        size(1, 1, 1);
        found(0, 0, 1);
    }

    private static void inIt() {
        C.sentence("FOUND: with what chance a PERSON is in it; BOTH: two of them.");
        row(2);
        found(0, 1, 1);
        C.fraction("both of two", x.both(0, 1, 0), x.both(0, 1, 1), 1, 1);
        x.persons(3);
        found(2, 1, 3);
        C.fraction("both, the same", x.both(2, 2, 0), x.both(2, 2, 1), 1, 3);
        C.fraction("both, without a way", x.both(0, 2, 0), x.both(0, 2, 1), 0, 1);
        C.fraction("both, turned", x.both(1, 0, 0), x.both(1, 0, 1), 2, 3);
    }

    private static void sizes() {
        C.sentence("SIZE n: with what chance it has n in the end.");
        complete(9);
        x.set(1, 7);
        for (int n = 1; n <= 6; n++) size(n, 0, 1);
        size(7, 1, 1);
        complete(6);
        x.set(1, 7);
        size(6, 1, 1);
        size(7, 0, 1);
        fresh(9);
        size(1, 1, 1);
        size(2, 0, 1);
    }

    private static void kinds() {
        C.sentence("KINDS k: with what chance just k of KIND 1 are in it.");
        complete(9);
        x.set(1, 7);
        ofKind(0, 1, 1);
        for (int p = 0; p < 9; p++) x.kind(p, 1);
        for (int k = 0; k <= 6; k++) ofKind(k, 0, 1);
        ofKind(7, 1, 1);
        x.kind(8, 0);
        ofKind(6, 7, 9);
        ofKind(7, 2, 9);
    }

    private static void withinOrLess() {
        C.sentence("differs by e hundredths or less (0 to 100) from their share in THE NET");
        // One of four is of KIND 1; a chain of one differs by 75 or by 25 hundredths.
        fresh(4);
        x.kind(3, 1);
        x.set(1, 1);
        within(24, 0, 1);
        within(25, 3, 4);
        within(74, 3, 4);
        within(75, 1, 1);
        within(100, 1, 1);
        // A third is between 33 and 34 hundredths.
        row(3);
        x.kind(0, 1);
        x.set(0, 2);
        x.set(1, 2);
        within(33, 0, 1);
        within(34, 1, 1);
        for (int p = 0; p < 3; p++) x.kind(p, 0);
        within(0, 1, 1);
        for (int p = 0; p < 3; p++) x.kind(p, 1);
        within(0, 1, 1);
        // 1 by 1 of 1 by 1, 1 by 2 twice: just a half, as 3 of 6 are.
        fresh(6);
        x.tie(0, 1, true);
        x.tie(1, 2, true);
        x.tie(2, 3, true);
        x.set(0, 0);
        x.set(1, 3);
        x.kind(0, 1);
        x.kind(4, 1);
        x.kind(5, 1);
        within(0, 1, 1);
    }

    private static void startAlone() {
        C.sentence("if START is alone, without TIES, it counts 1");
        fresh(9);
        x.kind(8, 1);
        x.set(0, 8);
        x.set(1, 7);
        // All of it against 1 by 9: 88 hundredths and some more.
        within(88, 0, 1);
        within(89, 1, 1);
        x.set(0, 0);
        within(11, 0, 1);
        within(12, 1, 1);
        fresh(1);
        x.kind(0, 1);
        x.set(0, 0);
        within(0, 1, 1);
        x.set(0, -1);
        within(0, 1, 1);
    }

    private static void walkTimes() {
        C.sentence("k (0 to 5) times, to one that is tied, each alike, who was there or not");
        row(2);
        x.set(0, 0);
        for (int k = 0; k <= 5; k++) {
            at(k, 0, 1 - k % 2, 1);
            at(k, 1, k % 2, 1);
        }
        row(9);
        x.set(0, 0);
        at(5, 5, 1, 16);
        at(5, 6, 0, 1);
        at(0, 0, 1, 1);
        x.set(0, -1);
        at(0, 8, 1, 9);
        C.due("once more", x.at(6, 0, 0), Check.BAD);
    }

    private static void staysWithoutTies() {
        C.sentence("who has no TIES stays");
        fresh(9);
        for (int k = 0; k <= 5; k++) {
            at(k, 8, 1, 9);
            x.set(0, 3);
            at(k, 3, 1, 1);
            at(k, 8, 0, 1);
            x.set(0, -1);
        }
    }

    private static void lastingNot() {
        C.sentence("LASTING of a PERSON: its DEGREE by all DEGREES together (NOT, if there are no TIES).");
        fresh(9);
        for (int what = 0; what < 2; what++) C.due("no TIES", x.lasting(0, what), Check.NOT);
        x.tie(0, 1, true);
        C.fraction("one TIE", x.lasting(0, 0), x.lasting(0, 1), 1, 2);
        C.fraction("none of it", x.lasting(8, 0), x.lasting(8, 1), 0, 1);
        x.tie(0, 1, false);
        C.due("no TIES again", x.lasting(0, 0), Check.NOT);
        complete(9);
        C.fraction("all TIES", x.lasting(8, 0), x.lasting(8, 1), 1, 9);
    }

    private static void strayedHalf() {
        C.sentence("STRAYED: half of all amounts of AT less LASTING together.");
        row(2);
        for (int k = 0; k <= 5; k++) strayed(k, 0, 1);
        x.set(0, 1);
        for (int k = 0; k <= 5; k++) strayed(k, 1, 2);
        x.persons(3);
        x.set(0, 2);
        for (int k = 0; k <= 5; k++) strayed(k, 1, 1);
        complete(9);
        x.set(0, 0);
        strayed(0, 8, 9);
        strayed(5, 1, 36864);
    }

    private static void settings() {
        C.sentence("START (what = 0; NONE too), LENGTH (1; 4 at first), AS OF (2), FROM (3): what it was.");
        fresh(9);
        int[][] due = {{0, 8, -1}, {0, 0, 8}, {0, -1, 0}, {0, -1, -1}, {1, 7, 4}, {1, 1, 7}, {1, 1, 1},
            {2, 0, 99}, {2, 99, 0}, {2, 99, 99}, {3, 9, 0}, {3, 0, 9}, {3, 0, 0}};
        for (int[] d : due) C.due("set(" + d[0] + ", " + d[1] + ")", x.set(d[0], d[1]), d[2]);
        x = new ThroughOthers();
        C.due("the last of six", x.set(0, 5), -1);
        C.due("behind it", x.set(0, 6), -5);
    }

    private static void settingsRefused() {
        C.sentence("what it was. BAD: -5.");
        fresh(9);
        x.set(0, 2);
        x.set(1, 3);
        x.set(2, 4);
        x.set(3, 5);
        int[][] bad = {{0, -2}, {0, 9}, {0, MANY}, {0, FEW}, {1, 0}, {1, 8}, {1, -1}, {1, MANY}, {1, FEW},
            {2, -1}, {2, 100}, {2, MANY}, {2, FEW}, {3, -1}, {3, 10}, {3, MANY}, {3, FEW},
            {4, 1}, {-1, 1}, {MANY, 1}, {FEW, 1}};
        for (int[] b : bad) C.due("set(" + b[0] + ", " + b[1] + ")", x.set(b[0], b[1]), -5);
        for (int what = 0; what < 4; what++) C.due("kept " + what, x.set(what, 1), what + 2);
    }

    private static void foundRefused() {
        C.sentence("FOUND: above, below. BAD. (As the least long and x more.)");
        fresh(6);
        for (int p : new int[] {-1, 6, 8, MANY, FEW}) for (int what = 0; what < 2; what++) C.due("of " + p, x.found(p, what), Check.BAD);
        for (int what : NO_BIT) C.due("what " + what, x.found(0, what), Check.BAD);
    }

    private static void bothRefused() {
        C.sentence("BOTH: above, below. BAD. (As the least long and x more.)");
        fresh(6);
        for (int p : new int[] {-1, 6, 8, MANY, FEW}) {
            C.due("the one " + p, x.both(p, 0, 0), Check.BAD);
            C.due("the other " + p, x.both(0, p, 1), Check.BAD);
            C.due("each " + p, x.both(p, p, 0), Check.BAD);
        }
        for (int what : NO_BIT) C.due("what " + what, x.both(0, 1, what), Check.BAD);
    }

    private static void sizeRefused() {
        C.sentence("SIZE n (1 to 7): above, below. BAD.");
        fresh(6);
        for (int n : new int[] {0, 8, -1, MANY, FEW}) for (int what = 0; what < 2; what++) C.due("n " + n, x.size(n, what), Check.BAD);
        for (int what : NO_BIT) C.due("what " + what, x.size(1, what), Check.BAD);
        size(1, 1, 1);
        size(7, 0, 1);
    }

    private static void kindsRefused() {
        C.sentence("KINDS k (0 to 7): above, below. BAD.");
        fresh(6);
        for (int k : new int[] {-1, 8, MANY, FEW}) for (int what = 0; what < 2; what++) C.due("k " + k, x.kinds(k, what), Check.BAD);
        for (int what : NO_BIT) C.due("what " + what, x.kinds(0, what), Check.BAD);
        ofKind(0, 1, 1);
        ofKind(7, 0, 1);
    }

    private static void withinRefused() {
        C.sentence("WITHIN e: above, below. BAD.");
        fresh(6);
        for (int e : new int[] {-1, 101, MANY, FEW}) for (int what = 0; what < 2; what++) C.due("e " + e, x.within(e, what), Check.BAD);
        for (int what : NO_BIT) C.due("what " + what, x.within(0, what), Check.BAD);
        within(0, 1, 1);
        within(100, 1, 1);
    }

    private static void atRefused() {
        C.sentence("AT: above, below. BAD.");
        fresh(6);
        for (int k : new int[] {-1, 6, MANY, FEW}) C.due("k " + k, x.at(k, 0, 0), Check.BAD);
        for (int p : new int[] {-1, 6, 8, MANY, FEW}) for (int what = 0; what < 2; what++) C.due("of " + p, x.at(0, p, what), Check.BAD);
        for (int what : NO_BIT) C.due("what " + what, x.at(0, 0, what), Check.BAD);
    }

    private static void lastingRefused() {
        C.sentence("LASTING: above, below. BAD; NOT.");
        fresh(6);
        for (int tied = 0; tied < 2; tied++) {
            for (int p : new int[] {-1, 6, 8, MANY, FEW}) C.due("of " + p, x.lasting(p, 0), Check.BAD);
            for (int what : NO_BIT) C.due("what " + what, x.lasting(0, what), Check.BAD);
            x.tie(0, 1, true);
        }
    }

    private static void strayedRefused() {
        C.sentence("STRAYED: above, below. BAD; NOT: as LASTING.");
        fresh(6);
        for (int k = 0; k <= 5; k++) for (int what = 0; what < 2; what++) C.due("no TIES", x.strayed(k, what), Check.NOT);
        for (int tied = 0; tied < 2; tied++) {
            for (int k : new int[] {-1, 6, MANY, FEW}) C.due("k " + k, x.strayed(k, 0), Check.BAD);
            for (int what : NO_BIT) C.due("what " + what, x.strayed(0, what), Check.BAD);
            x.tie(0, 1, true);
        }
        x.tie(0, 1, false);
        C.due("no TIES again", x.strayed(0, 0), Check.NOT);
    }
}
