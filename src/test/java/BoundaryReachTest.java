/** Boundary cases of reach (section 5, promises 31 to 33): one test for each sentence that names one. */
public final class BoundaryReachTest {
    private static final Check C = new Check();
    private static final int MANY = Integer.MAX_VALUE, FEW = Integer.MIN_VALUE;
    private static ThroughOthers x;

    public static void main(String[] args) {
        reachByW();
        reachLeastBits();
        reachRefused();
        parts();
        bridges();
        partsRefused();
        aboveZero();
        noMoreThanHalf();
        narrowLeastBits();
        narrowNone();
        narrowRefused();
        C.end();
    }

    private static void fresh(int persons) {
        x = new ThroughOthers();
        x.persons(persons);
    }

    private static void row(int persons) {
        fresh(persons);
        for (int p = 0; p + 1 < persons; p++) x.tie(p, p + 1, true);
    }

    private static void complete(int persons) {
        fresh(persons);
        for (int a = 0; a < persons; a++) for (int b = 0; b < a; b++) x.tie(a, b, true);
    }

    private static void narrow(long set, long above, long below) {
        C.due("narrow set", x.narrow(2), set);
        C.fraction("narrow share", x.narrow(0), x.narrow(1), above, below);
    }

    private static void reachByW() {
        C.sentence("from one of whom each is FAR by w (0 to 8) or less");
        row(9);
        C.due("by none", x.reach(0), 511);
        C.due("by 1", x.reach(1), 2 + 16 + 128);
        C.due("by 3, ahead of 1 and 5, 2 and 5", x.reach(3), 1 + 32);
        C.due("by 4, from the middle", x.reach(4), 16);
        C.due("by 7", x.reach(7), 2);
        C.due("by 8", x.reach(8), 1);
        fresh(9);
        for (int w = 0; w <= 8; w++) C.due("without TIES, by " + w, x.reach(w), 511);
        fresh(1);
        for (int w = 0; w <= 8; w++) C.due("one alone, by " + w, x.reach(w), 1);
    }

    private static void reachLeastBits() {
        C.sentence("REACH: the fewest PERSONS of THE NET (of like ones the least as bits)");
        complete(9);
        C.due("any one would do", x.reach(1), 1);
        C.due("by none all must", x.reach(0), 511);
        row(4);
        C.due("0 and 2, ahead of 0 and 3, 1 and 2, 1 and 3", x.reach(1), 5);
        C.due("1, ahead of 2", x.reach(2), 2);
        fresh(9);
        x.tie(7, 8, true);
        C.due("the lesser of two that are tied", x.reach(1), 255);
    }

    private static void reachRefused() {
        C.sentence("REACH, as bits. BAD.");
        fresh(6);
        for (int w : new int[] {-1, 9, MANY, FEW}) C.due("w " + w, x.reach(w), -2);
        C.due("0", x.reach(0), 63);
        C.due("8", x.reach(8), 63);
    }

    private static void parts() {
        C.sentence("PARTS: the number of parts that hang together.");
        fresh(1);
        C.due("one alone", x.parts(0), 1);
        fresh(9);
        C.due("nine alone", x.parts(0), 9);
        for (int p = 0; p < 8; p++) {
            x.tie(p, p + 1, true);
            C.due("one fewer", x.parts(0), 8 - p);
        }
        x.tie(0, 8, true);
        C.due("a ring", x.parts(0), 1);
        x.tie(3, 4, false);
        C.due("a row", x.parts(0), 1);
    }

    private static void bridges() {
        C.sentence("BRIDGES: PERSONS without whom there are more parts of the others than before, bits.");
        fresh(1);
        C.due("nobody is left: not more", x.parts(1), 0);
        row(2);
        C.due("one is left: not more", x.parts(1), 0);
        row(9);
        C.due("all but the ends", x.parts(1), 254);
        x.tie(0, 8, true);
        C.due("a ring", x.parts(1), 0);
        fresh(9);
        C.due("one alone less: fewer", x.parts(1), 0);
        for (int p = 0; p < 8; p++) x.tie(8, p, true);
        C.due("the middle of a star", x.parts(1), 256);
    }

    private static void partsRefused() {
        C.sentence("PARTS (what = 0), BRIDGES (1). BAD.");
        fresh(6);
        for (int what : new int[] {-1, 2, MANY, FEW}) C.due("what " + what, x.parts(what), -2);
    }

    private static void aboveZero() {
        C.sentence("whose DEGREES together are above 0");
        fresh(9);
        x.tie(7, 8, true);
        narrow(128, 1, 1);                  // 0 .. 6 alone would have 0 by 0
        x.tie(5, 6, true);
        narrow(32 + 64, 0, 1);
    }

    private static void noMoreThanHalf() {
        C.sentence("no more than half of all, the one with the least share of TIES that lead out by its DEGREES together");
        row(2);
        narrow(1, 1, 1);                    // just half; both together have all, and none leads out
        row(4);
        narrow(3, 1, 3);                    // just half
        fresh(5);                           // three in a ring have more than half
        x.tie(0, 1, true);
        x.tie(1, 2, true);
        x.tie(2, 0, true);
        x.tie(3, 4, true);
        narrow(8 + 16, 0, 1);
        complete(9);
        narrow(15, 5, 8);                   // four have 32 of 72, five would have 40
    }

    private static void narrowLeastBits() {
        C.sentence("of like ones the least as bits; NONE; the share");
        row(4);
        narrow(3, 1, 3);                    // 2 and 3 have as little
        fresh(6);
        x.tie(0, 1, true);
        x.tie(2, 3, true);
        x.tie(4, 5, true);
        narrow(3, 0, 1);
        fresh(9);
        x.tie(1, 2, true);
        x.tie(7, 8, true);
        narrow(2 + 4, 0, 1);                // 0, who is alone, with them would be more bits
    }

    private static void narrowNone() {
        C.sentence("NARROW: the set as bits (what = 2; NONE: there is none), its share: above, below (0, 1; NOT).");
        for (int n = 1; n <= 9; n += 8) {
            fresh(n);
            C.due("no set", x.narrow(2), -1);
            C.due("no share", x.narrow(0), Check.NOT);
            C.due("no share, below", x.narrow(1), Check.NOT);
        }
        x.tie(0, 8, true);
        narrow(1, 1, 1);
        // In a star the middle has just half, each other one all leading out.
        for (int p = 1; p < 8; p++) x.tie(p, 8, true);
        C.due("one of a star", x.narrow(2), 1);
        C.fraction("its share", x.narrow(0), x.narrow(1), 1, 1);
    }

    private static void narrowRefused() {
        C.sentence("its share: above, below (0, 1; NOT). BAD. (As the least long and x more.)");
        fresh(2);
        for (int tied = 0; tied < 2; tied++) {
            for (int what : new int[] {-1, 3, MANY, FEW}) C.due("what " + what, x.narrow(what), Check.BAD);
            x.tie(0, 1, true);
        }
    }
}
