import java.util.Random;

/** Promises 8 to 16. */
public final class ChainsTest {
    private static final Check C = new Check();
    private static ThroughOthers x;

    public static void main(String[] args) {
        settings();
        path();
        near();
        full();
        walk();
        bad();
        followsChanges();
        dense();
        smallestChances();
        C.end();
    }

    private static void settings() {
        x = new ThroughOthers();
        C.due("START", x.set(0, 5), -1);
        C.due("START was", x.set(0, -1), 5);
        C.due("LENGTH", x.set(1, 7), 4);
        C.due("LENGTH was", x.set(1, 1), 7);
        C.due("AS OF", x.set(2, 0), 99);
        C.due("AS OF was", x.set(2, 99), 0);
        C.due("FROM", x.set(3, 9), 0);
        C.due("FROM was", x.set(3, 0), 9);
        int[][] bad = {{0, 6}, {0, -2}, {1, 0}, {1, 8}, {2, -1}, {2, 100}, {3, -1}, {3, 10}, {4, 0}, {-1, 0}};
        for (int[] b : bad) C.due("set(" + b[0] + ", " + b[1] + ")", x.set(b[0], b[1]), -5);
        C.due("START kept", x.count(6), -1);
        C.due("LENGTH kept", x.count(7), 1);
        C.due("AS OF kept", x.set(2, 99), 99);
        C.due("FROM kept", x.set(3, 0), 0);
    }

    /** 0, 1, 2 in a row: from the middle the chain ends early. */
    private static void pathOfThree() {
        x = new ThroughOthers();
        x.persons(3);
        x.tie(0, 1, true);
        x.tie(1, 2, true);
        x.kind(0, 1);
    }

    private static void path() {
        pathOfThree();
        C.fraction("found(0)", x.found(0, 0), x.found(0, 1), 5, 6);
        C.fraction("found(1)", x.found(1, 0), x.found(1, 1), 1, 1);
        C.fraction("both(0, 2)", x.both(0, 2, 0), x.both(0, 2, 1), 2, 3);
        C.fraction("both(2, 2)", x.both(2, 2, 0), x.both(2, 2, 1), 5, 6);
        C.fraction("size(1)", x.size(1, 0), x.size(1, 1), 0, 1);
        C.fraction("size(2)", x.size(2, 0), x.size(2, 1), 1, 3);
        C.fraction("size(3)", x.size(3, 0), x.size(3, 1), 2, 3);
        C.fraction("size(7)", x.size(7, 0), x.size(7, 1), 0, 1);
        C.fraction("kinds(0)", x.kinds(0, 0), x.kinds(0, 1), 1, 6);
        C.fraction("kinds(1)", x.kinds(1, 0), x.kinds(1, 1), 5, 6);
        C.fraction("kinds(7)", x.kinds(7, 0), x.kinds(7, 1), 0, 1);
        x.set(0, 1);
        C.fraction("START 1: found(0)", x.found(0, 0), x.found(0, 1), 1, 2);
        C.fraction("START 1: both(0, 2)", x.both(0, 2, 0), x.both(0, 2, 1), 0, 1);
        x.set(1, 1);
        C.fraction("LENGTH 1: found(1)", x.found(1, 0), x.found(1, 1), 1, 1);
        C.fraction("LENGTH 1: found(0)", x.found(0, 0), x.found(0, 1), 0, 1);
        C.fraction("LENGTH 1: size(1)", x.size(1, 0), x.size(1, 1), 1, 1);
    }

    private static void near() {
        pathOfThree();
        // All three together: 1 by 2 1/2, 1/15 from a third; two of them: a third from it.
        C.fraction("within(6)", x.within(6, 0), x.within(6, 1), 0, 1);
        C.fraction("within(7)", x.within(7, 0), x.within(7, 1), 2, 3);
        C.fraction("within(33)", x.within(33, 0), x.within(33, 1), 2, 3);
        C.fraction("within(34)", x.within(34, 0), x.within(34, 1), 1, 1);
        C.fraction("within(100)", x.within(100, 0), x.within(100, 1), 1, 1);
        x.persons(2);
        x.set(1, 1);
        C.fraction("within(50)", x.within(50, 0), x.within(50, 1), 1, 1);
        C.fraction("within(49)", x.within(49, 0), x.within(49, 1), 0, 1);
        x.tie(0, 1, false);
        x.set(0, 0);
        x.set(1, 7);
        C.fraction("alone within(50)", x.within(50, 0), x.within(50, 1), 1, 1);
        C.fraction("alone within(49)", x.within(49, 0), x.within(49, 1), 0, 1);
        x.kind(1, 1);
        C.fraction("alone within(0)", x.within(0, 0), x.within(0, 1), 1, 1);
    }

    private static void full() {
        x = new ThroughOthers();
        x.persons(9);
        for (int a = 0; a < 9; a++) for (int b = 0; b < a; b++) x.tie(a, b, true);
        x.set(1, 7);
        x.kind(0, 1);
        x.kind(8, 1);
        C.fraction("found of 9", x.found(8, 0), x.found(8, 1), 7, 9);
        C.fraction("both of 9", x.both(0, 8, 0), x.both(0, 8, 1), 7, 12);
        C.fraction("size of 9", x.size(7, 0), x.size(7, 1), 1, 1);
        C.fraction("kinds of 9", x.kinds(2, 0), x.kinds(2, 1), 7, 12);
        C.fraction("at of 9", x.at(5, 3, 0), x.at(5, 3, 1), 1, 9);
        C.fraction("strayed of 9", x.strayed(5, 0), x.strayed(5, 1), 0, 1);
        x.set(0, 0);
        C.fraction("back of 9", x.at(2, 0, 0), x.at(2, 0, 1), 1, 8);
        C.fraction("strayed from 0", x.strayed(0, 0), x.strayed(0, 1), 8, 9);
    }

    private static void walk() {
        pathOfThree();
        C.fraction("at(0, 0)", x.at(0, 0, 0), x.at(0, 0, 1), 1, 3);
        C.fraction("at(1, 1)", x.at(1, 1, 0), x.at(1, 1, 1), 2, 3);
        C.fraction("at(1, 0)", x.at(1, 0, 0), x.at(1, 0, 1), 1, 6);
        C.fraction("lasting(0)", x.lasting(0, 0), x.lasting(0, 1), 1, 4);
        C.fraction("lasting(1)", x.lasting(1, 0), x.lasting(1, 1), 1, 2);
        C.fraction("strayed(0)", x.strayed(0, 0), x.strayed(0, 1), 1, 6);
        C.fraction("strayed(1)", x.strayed(1, 0), x.strayed(1, 1), 1, 6);
        x.set(0, 0);
        C.fraction("from 0: at(0, 0)", x.at(0, 0, 0), x.at(0, 0, 1), 1, 1);
        C.fraction("from 0: at(2, 0)", x.at(2, 0, 0), x.at(2, 0, 1), 1, 2);
        C.fraction("from 0: at(5, 1)", x.at(5, 1, 0), x.at(5, 1, 1), 1, 1);
        C.fraction("from 0: at(5, 0)", x.at(5, 0, 0), x.at(5, 0, 1), 0, 1);
        C.fraction("from 0: strayed(0)", x.strayed(0, 0), x.strayed(0, 1), 3, 4);
        x.persons(4);
        x.set(0, 3);
        C.fraction("alone stays", x.at(5, 3, 0), x.at(5, 3, 1), 1, 1);
        C.fraction("alone strays", x.strayed(5, 0), x.strayed(5, 1), 1, 1);
        C.fraction("alone lasting", x.lasting(3, 0), x.lasting(3, 1), 0, 1);
        x.persons(1);
        C.due("lasting NOT", x.lasting(0, 0), Check.NOT);
        C.due("lasting NOT below", x.lasting(0, 1), Check.NOT);
        C.due("strayed NOT", x.strayed(0, 1), Check.NOT);
        C.due("lasting BAD ahead", x.lasting(1, 0), Check.BAD);
        C.due("strayed BAD ahead", x.strayed(6, 0), Check.BAD);
    }

    private static void bad() {
        pathOfThree();
        long before = x.digest();
        int far = Integer.MAX_VALUE;
        for (int what : new int[] {-1, 2, far, Integer.MIN_VALUE}) {
            C.due("found what", x.found(0, what), Check.BAD);
            C.due("both what", x.both(0, 1, what), Check.BAD);
            C.due("size what", x.size(1, what), Check.BAD);
            C.due("kinds what", x.kinds(1, what), Check.BAD);
            C.due("within what", x.within(1, what), Check.BAD);
            C.due("at what", x.at(1, 1, what), Check.BAD);
            C.due("lasting what", x.lasting(1, what), Check.BAD);
            C.due("strayed what", x.strayed(1, what), Check.BAD);
        }
        for (int p : new int[] {-1, 3, far, Integer.MIN_VALUE}) {
            C.due("found person", x.found(p, 0), Check.BAD);
            C.due("both a", x.both(p, 0, 0), Check.BAD);
            C.due("both b", x.both(0, p, 0), Check.BAD);
            C.due("at person", x.at(0, p, 0), Check.BAD);
            C.due("lasting person", x.lasting(p, 0), Check.BAD);
        }
        for (int n : new int[] {0, 8, -1, far}) C.due("size n", x.size(n, 0), Check.BAD);
        for (int k : new int[] {-1, 8, far}) C.due("kinds k", x.kinds(k, 0), Check.BAD);
        for (int e : new int[] {-1, 101, far}) C.due("within e", x.within(e, 0), Check.BAD);
        for (int k : new int[] {-1, 6, far}) {
            C.due("at k", x.at(k, 0, 0), Check.BAD);
            C.due("strayed k", x.strayed(k, 0), Check.BAD);
        }
        C.due("nothing changed", x.digest(), before);
        C.due("no finding", x.count(8), 0);
    }

    /** What was reckoned for one net must not be told of the next. */
    private static void followsChanges() {
        pathOfThree();
        x.found(0, 0);
        x.tie(0, 2, true);
        C.fraction("after tie", x.found(0, 0), x.found(0, 1), 1, 1);
        x.set(1, 2);
        C.fraction("after LENGTH", x.found(0, 0), x.found(0, 1), 2, 3);
        x.set(0, 1);
        C.fraction("after START", x.found(0, 0), x.found(0, 1), 1, 2);
        x.kind(1, 1);
        C.fraction("after kind", x.kinds(2, 0), x.kinds(2, 1), 1, 2);
        x.sheet(0, 0, 3);
        x.read(0, 1);
        C.fraction("after read", x.found(0, 0), x.found(0, 1), 0, 1);
        x.persons(1);
        C.fraction("after persons", x.found(0, 0), x.found(0, 1), 1, 1);
        x.persons(4);
        C.fraction("after persons more", x.found(0, 0), x.found(0, 1), 1, 4);
    }

    /** Great nets, where the numbers below are the greatest, against Reference. */
    private static void dense() {
        for (int seed = 0; seed < 6; seed++) {
            Random random = new Random(seed);
            x = new ThroughOthers();
            Reference due = new Reference();
            x.persons(9);
            due.persons(9);
            for (int a = 0; a < 9; a++) {
                for (int b = 0; b < a; b++) {
                    boolean is = random.nextInt(10) < 5 + seed % 3;
                    x.tie(a, b, is);
                    due.tie(a, b, is);
                }
                x.kind(a, a % 2);
                due.kind(a, a % 2);
            }
            x.set(1, 7);
            due.set(1, 7);
            if (seed % 2 == 0) {
                x.set(0, 4);
                due.set(0, 4);
            }
            for (int what = 0; what < 2; what++) {
                C.due("dense found", x.found(8, what), due.found(8, what));
                C.due("dense both", x.both(2, 7, what), due.both(2, 7, what));
                C.due("dense kinds", x.kinds(3, what), due.kinds(3, what));
                C.due("dense within", x.within(4, what), due.within(4, what));
                C.due("dense at", x.at(5, 3, what), due.at(5, 3, what));
                C.due("dense strayed", x.strayed(4, what), due.strayed(4, what));
            }
            C.due("dense strayed 5", x.strayed(5, 1), due.strayed(5, 1));
        }
    }

    /**
     * Chances as small as they get, against Reference: on the way 0, 1, .. 5 there are six times
     * 3 to go to, or 8, 4, 4, 4, 4 and 2 (each row: whom one is tied to among the later ones).
     */
    private static void smallestChances() {
        int[][][] nets = {
            {{1, 7, 8}, {2, 7, 8}, {3, 7, 8}, {4, 7, 8}, {5, 7, 8}, {6, 7, 8}},
            {{1, 2, 3, 4, 5, 6, 7, 8}, {2, 6, 7, 8}, {3, 6, 7, 8}, {4, 6, 7, 8}, {5, 6, 7, 8}, {6, 7}}};
        for (int[][] net : nets) {
            x = new ThroughOthers();
            Reference due = new Reference();
            x.persons(9);
            due.persons(9);
            for (int a = 0; a < net.length; a++) for (int b : net[a]) {
                x.tie(a, b, true);
                due.tie(a, b, true);
            }
            x.set(0, 0);
            due.set(0, 0);
            x.set(1, 7);
            due.set(1, 7);
            for (int p = 0; p < 9; p++) for (int what = 0; what < 2; what++) {
                C.due("small found(" + p + ")", x.found(p, what), due.found(p, what));
                C.due("small both(6, " + p + ")", x.both(6, p, what), due.both(6, p, what));
            }
        }
    }
}
