/** Promises 31 to 33. */
public final class ReachTest {
    private static final Check C = new Check();
    private static ThroughOthers x;

    public static void main(String[] args) {
        row();
        apart();
        ring();
        bad();
        C.end();
    }

    private static void row() {
        x = new ThroughOthers();
        x.persons(5);
        for (int p = 0; p < 4; p++) x.tie(p, p + 1, true);
        C.due("reach(0)", x.reach(0), 31);
        C.due("reach(1), the least bits", x.reach(1), 9);
        C.due("reach(2)", x.reach(2), 4);
        C.due("reach(3)", x.reach(3), 2);
        C.due("reach(8)", x.reach(8), 1);
        C.due("PARTS", x.parts(0), 1);
        C.due("BRIDGES", x.parts(1), 14);
        C.due("NARROW", x.narrow(2), 3);
        C.fraction("its share", x.narrow(0), x.narrow(1), 1, 3);
    }

    private static void apart() {
        x = new ThroughOthers();
        C.due("no TIES: parts", x.parts(0), 6);
        C.due("no TIES: bridges", x.parts(1), 0);
        C.due("no TIES: reach", x.reach(8), 63);
        C.due("no TIES: narrow", x.narrow(2), -1);
        C.due("no TIES: share", x.narrow(0), Check.NOT);
        C.due("no TIES: share below", x.narrow(1), Check.NOT);
        x.tie(1, 2, true);
        // Of one TIE either end is just half.
        C.due("one TIE: narrow", x.narrow(2), 2);
        C.fraction("one TIE: share", x.narrow(0), x.narrow(1), 1, 1);
        C.due("one TIE: bridges", x.parts(1), 0);
        x.tie(3, 4, true);
        C.due("two TIES: parts", x.parts(0), 4);
        C.due("two TIES: reach", x.reach(1), 1 + 2 + 8 + 32);
        C.due("two TIES: narrow", x.narrow(2), 6);
        C.fraction("two TIES: share", x.narrow(0), x.narrow(1), 0, 1);
        x.tie(4, 5, true);
        C.due("a BRIDGE in one part", x.parts(1), 16);
        C.due("the part of the fewer DEGREES", x.narrow(2), 6);
        x.persons(1);
        C.due("one: parts", x.parts(0), 1);
        C.due("one: bridges", x.parts(1), 0);
        C.due("one: reach", x.reach(0), 1);
    }

    private static void ring() {
        x = new ThroughOthers();
        x.persons(9);
        for (int p = 0; p < 9; p++) x.tie(p, (p + 1) % 9, true);
        C.due("ring: bridges", x.parts(1), 0);
        C.due("ring: reach(1)", x.reach(1), 1 + 8 + 64);
        C.due("ring: reach(4)", x.reach(4), 1);
        C.due("ring: reach(3)", x.reach(3), 3 + 2);
        C.due("ring: narrow", x.narrow(2), 15);
        C.fraction("ring: share", x.narrow(0), x.narrow(1), 1, 4);
    }

    private static void bad() {
        x = new ThroughOthers();
        x.tie(0, 1, true);
        long before = x.digest();
        for (int v : new int[] {-1, 9, Integer.MAX_VALUE, Integer.MIN_VALUE}) {
            C.due("reach(" + v + ")", x.reach(v), -2);
            C.due("parts(" + v + ")", x.parts(v), -2);
            C.due("narrow(" + v + ")", x.narrow(v), Check.BAD);
        }
        C.due("parts(2)", x.parts(2), -2);
        C.due("narrow(3)", x.narrow(3), Check.BAD);
        C.due("nothing changed", x.digest(), before);
    }
}
