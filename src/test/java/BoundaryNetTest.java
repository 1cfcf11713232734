/** Boundary cases of the net (section 1, promises 1 to 7): one test for each sentence that names one. */
public final class BoundaryNetTest {
    private static final Check C = new Check();
    private static final int MANY = Integer.MAX_VALUE, FEW = Integer.MIN_VALUE;
    private static ThroughOthers x;

    public static void main(String[] args) {
        personsAsManyAsTold();
        kindAtFirst();
        noTiesAtFirst();
        degreeFromNoneToAll();
        noWay();
        lowestTerms();
        newObject();
        personsRefused();
        othersAreForgotten();
        startIsForgotten();
        tieOrNone();
        soAlready();
        tieWithItself();
        kindWas();
        readItsOwn();
        readAsLongAsEachMayBe();
        readAsManyAsThereAre();
        readRefused();
        aboutRefused();
        farRefused();
        C.end();
    }

    private static void fresh(int persons) {
        x = new ThroughOthers();
        x.persons(persons);
    }

    private static void row() {
        for (int p = 0; p + 1 < x.count(0); p++) x.tie(p, p + 1, true);
    }

    private static void personsAsManyAsTold() {
        C.sentence("PERSONS 0 to 8 (as many as told, 1 to 9; 6 at first)");
        x = new ThroughOthers();
        C.due("the last at first", x.about(5, 0), 0);
        C.due("behind the last at first", x.about(6, 0), -2);
        for (int n = 1; n <= 9; n++) {
            x.persons(n);
            C.due("how many", x.count(0), n);
            C.due("the first of " + n, x.about(0, 0), 0);
            C.due("the last of " + n, x.about(n - 1, 0), 0);
            C.due("behind the last of " + n, x.about(n, 0), -2);
            C.due("ahead of the first of " + n, x.about(-1, 0), -2);
        }
    }

    private static void kindAtFirst() {
        C.sentence("each of a KIND (0 at first, or 1)");
        fresh(9);
        for (int p = 0; p < 9; p++) {
            C.due("at first", x.about(p, 1), 0);
            C.due("2", x.kind(p, 2), -2);
            C.due("-1", x.kind(p, -1), -2);
            C.due("still", x.kind(p, 1), 0);
            C.due("then", x.about(p, 1), 1);
        }
        C.due("all", x.count(2), 511);
    }

    private static void noTiesAtFirst() {
        C.sentence("TIES are between two of them, or not (none at first)");
        fresh(9);
        C.due("TIES", x.count(1), 0);
        for (int a = 0; a < 9; a++) for (int b = 0; b < 9; b++) {
            if (a != b) C.due("none between " + a + " and " + b, x.tie(a, b, false), 0);
        }
    }

    private static void degreeFromNoneToAll() {
        C.sentence("DEGREE: how many TIES one has");
        fresh(9);
        for (int p = 1; p < 9; p++) {
            C.due("before", x.about(0, 0), p - 1);
            x.tie(p, 0, true);
            C.due("the other", x.about(p, 0), 1);
        }
        C.due("tied to all", x.about(0, 0), 8);
        for (int a = 0; a < 9; a++) for (int b = 0; b < a; b++) x.tie(a, b, true);
        C.due("all TIES", x.count(1), 36);
        C.due("the last", x.about(8, 0), 8);
    }

    private static void noWay() {
        C.sentence("(NONE: there is no way)");
        fresh(9);
        C.due("to itself, without TIES", x.far(8, 8), 0);
        C.due("without TIES", x.far(0, 8), -1);
        row();
        C.due("as far as can be", x.far(0, 8), 8);
        x.tie(7, 8, false);
        C.due("up to the gap", x.far(0, 7), 7);
        C.due("over the gap", x.far(0, 8), -1);
        C.due("over the gap, back", x.far(8, 0), -1);
    }

    private static void lowestTerms() {
        C.sentence("FRACTIONS are told in lowest terms, above and below (0 by 1)");
        fresh(4);
        x.tie(0, 1, true);
        C.fraction("2 of 4", x.found(0, 0), x.found(0, 1), 1, 2);
        C.fraction("4 of 4", x.within(100, 0), x.within(100, 1), 1, 1);
        C.fraction("0 of 4", x.size(7, 0), x.size(7, 1), 0, 1);
        C.fraction("lasting 0", x.lasting(3, 0), x.lasting(3, 1), 0, 1);
        x.came(-1, 0, 20, 0);
        x.came(-1, 0, 7, 0);
        C.fraction("share 0", x.share(0, 0), x.share(0, 1), 0, 1);
        C.fraction("share 0 BY TIES", x.share(1, 0), x.share(1, 1), 0, 1);
        C.fraction("bounds 0", x.bounds(5, 1, 0), x.bounds(5, 1, 1), 0, 1);
    }

    private static void newObject() {
        C.sentence("Six PERSONS without TIES, no RECORDS; all SHEETS are LOST.");
        x = new ThroughOthers();
        C.due("PERSONS", x.count(0), 6);
        C.due("TIES", x.count(1), 0);
        C.due("RECORDS", x.count(3), 0);
        C.due("no first RECORD", x.record(0, 0), -5);
        for (int s = 0; s < 4; s++) C.due("SHEET " + s, x.lose(s), -11);
    }

    private static void personsRefused() {
        C.sentence("How many PERSONS there are: how many there were");
        fresh(9);
        row();
        x.kind(8, 1);
        x.set(0, 8);
        for (int n : new int[] {0, 10, -1, 11, 256 + 3, FEW, MANY}) {
            C.due("persons(" + n + ")", x.persons(n), -2);
            C.due("PERSONS", x.count(0), 9);
            C.due("TIES", x.count(1), 8);
            C.due("KIND 1", x.count(2), 256);
            C.due("START", x.count(6), 8);
        }
        C.due("as many", x.persons(9), 9);
        C.due("TIES of as many", x.count(1), 8);
        C.due("the fewest", x.persons(1), 9);
        C.due("the most", x.persons(9), 1);
    }

    private static void othersAreForgotten() {
        C.sentence("TIES and KINDS of others are forgotten");
        fresh(9);
        for (int a = 0; a < 9; a++) for (int b = 0; b < a; b++) x.tie(a, b, true);
        for (int p = 0; p < 9; p++) x.kind(p, 1);
        x.persons(8);
        x.persons(9);
        C.due("TIES of the last", x.about(8, 0), 0);
        C.due("KIND of the last", x.about(8, 1), 0);
        for (int p = 0; p < 8; p++) {
            C.due("TIES of " + p, x.about(p, 0), 7);
            C.due("KIND of " + p, x.about(p, 1), 1);
        }
        x.persons(1);
        x.persons(9);
        C.due("no TIES are left", x.count(1), 0);
        C.due("KIND of the first is left", x.count(2), 1);
    }

    private static void startIsForgotten() {
        C.sentence("START, if it is not among them, is NONE");
        fresh(9);
        x.set(0, 4);
        x.persons(5);
        C.due("the last of them", x.count(6), 4);
        x.persons(4);
        C.due("just behind them", x.count(6), -1);
        x.persons(9);
        C.due("it does not come back", x.count(6), -1);
        x.set(0, 0);
        x.persons(1);
        C.due("the first is always among them", x.count(6), 0);
    }

    private static void tieOrNone() {
        C.sentence("A TIE is between two PERSONS (is = true), or none: 1");
        fresh(9);
        C.due("the first and the last", x.tie(0, 8, true), 1);
        C.due("of the one", x.about(0, 0), 1);
        C.due("of the other", x.about(8, 0), 1);
        C.due("none, the other way round", x.tie(8, 0, false), 1);
        C.due("of the one, none", x.about(0, 0), 0);
        C.due("of the other, none", x.about(8, 0), 0);
        x.persons(1);
        C.due("nobody to be tied to", x.tie(0, 1, true), -2);
    }

    private static void soAlready() {
        C.sentence("0: it is so already");
        fresh(2);
        C.due("none", x.tie(0, 1, false), 0);
        C.due("none, turned", x.tie(1, 0, false), 0);
        x.tie(0, 1, true);
        C.due("one", x.tie(0, 1, true), 0);
        C.due("one, turned", x.tie(1, 0, true), 0);
        C.due("TIES", x.count(1), 1);
    }

    private static void tieWithItself() {
        C.sentence("BAD: also one with itself.");
        fresh(6);
        for (int p = 0; p < 6; p++) {
            C.due("tie " + p, x.tie(p, p, true), -2);
            C.due("untie " + p, x.tie(p, p, false), -2);
        }
        for (int p : new int[] {-1, 6, MANY, FEW}) {
            C.due("one not there", x.tie(p, 0, true), -2);
            C.due("the other not there", x.tie(0, p, true), -2);
            C.due("neither there", x.tie(p, p, false), -2);
        }
        C.due("TIES", x.count(1), 0);
    }

    private static void kindWas() {
        C.sentence("The KIND of a PERSON: what it was. BAD.");
        fresh(9);
        C.due("first 1", x.kind(8, 1), 0);
        C.due("1 again", x.kind(8, 1), 1);
        C.due("0", x.kind(8, 0), 1);
        C.due("0 again", x.kind(8, 0), 0);
        for (int p : new int[] {-1, 9, MANY, FEW}) C.due("kind of " + p, x.kind(p, 1), -2);
        for (int v : new int[] {-1, 2, MANY, FEW}) C.due("kind " + v, x.kind(0, v), -2);
        C.due("nothing changed", x.count(2), 0);
    }

    private static void readItsOwn() {
        C.sentence("(its own is passed over)");
        for (int own : new int[] {0, 1, 2, -1, MANY, FEW}) {
            for (int p = 0; p < 3; p++) {
                fresh(3);
                x.sheet(0, 2, 3);
                for (int j = 0; j < 3; j++) x.lay(0, 2, j, j == p ? own : 1);
                C.due("own " + own + " of " + p, x.read(0, p), 3);
                C.due("tied to both others", x.about(p, 0), 2);
                C.due("TIES", x.count(1), 2);
            }
        }
        fresh(1);
        x.sheet(0, 0, 1);
        x.lay(0, 0, 0, 7);
        C.due("its own alone", x.read(0, 0), 1);
        C.due("no TIES", x.count(1), 0);
    }

    private static void readAsLongAsEachMayBe() {
        C.sentence("as long as each may be: how many items");
        for (int wrong : new int[] {2, -1, 256, 257, MANY, FEW}) {
            for (int place = 1; place < 6; place++) {
                fresh(6);
                x.tie(0, place, true);
                x.sheet(0, 2, 6);
                for (int j = 0; j < 6; j++) x.lay(0, 2, j, j == place ? wrong : j < place ? 1 : 0);
                C.due("ends at " + place, x.read(0, 0), place);
                C.due("those ahead, and the one that was", x.about(0, 0), place);
                C.due("no finding", x.count(8), 0);
            }
        }
        fresh(6);
        x.sheet(0, 2, 6);
        x.lay(0, 2, 0, 2);
        C.due("the first may not be", x.read(0, 1), 0);
        x.sheet(1, 0, 6);
        x.lay(1, 0, 0, 257);
        x.lay(1, 0, 2, 256);
        C.due("a byte holds the lowest bits alone", x.read(1, 1), 6);
        C.due("257 was 1, 256 was 0", x.about(1, 0), 1);
    }

    private static void readAsManyAsThereAre() {
        C.sentence("TIES of a PERSON by a SHEET: item j (0 or 1) tells whether it is tied to PERSON j");
        fresh(9);
        for (int p = 0; p < 8; p++) x.tie(8, p, true);
        x.sheet(0, 1, 0);
        C.due("no items", x.read(0, 8), 0);
        C.due("all as before", x.about(8, 0), 8);
        x.sheet(0, 1, 1);
        C.due("one item", x.read(0, 8), 1);
        C.due("one TIE fewer", x.about(8, 0), 7);
        C.due("on both sides", x.about(0, 0), 0);
        x.sheet(0, 1, 60);
        x.lay(0, 1, 9, 5);
        C.due("more items than PERSONS", x.read(0, 8), 9);
        C.due("no TIES", x.count(1), 0);
    }

    private static void readRefused() {
        C.sentence("as long as each may be: how many items. BAD; NULL.");
        fresh(6);
        for (int s : new int[] {-1, 4, MANY, FEW}) C.due("SHEET " + s, x.read(s, 0), -2);
        for (int p : new int[] {-1, 6, MANY, FEW}) C.due("BAD ahead of NULL", x.read(0, p), -2);
        C.due("no finding", x.count(8), 0);
        for (int s = 0; s < 4; s++) C.due("NULL", x.read(s, 0), -11);
        C.due("finding", x.count(8), 1);
    }

    private static void aboutRefused() {
        C.sentence("DEGREE (what = 0), KIND (1) of a PERSON. BAD.");
        fresh(6);
        for (int p : new int[] {-1, 6, 8, MANY, FEW}) for (int what = 0; what < 2; what++) C.due("of " + p, x.about(p, what), -2);
        for (int what : new int[] {-1, 2, MANY, FEW}) C.due("what " + what, x.about(0, what), -2);
    }

    private static void farRefused() {
        C.sentence("How FAR; NONE. BAD.");
        fresh(6);
        for (int p : new int[] {-1, 6, 8, MANY, FEW}) {
            C.due("from " + p, x.far(p, 0), -2);
            C.due("to " + p, x.far(0, p), -2);
            C.due("both " + p, x.far(p, p), -2);
        }
    }
}
