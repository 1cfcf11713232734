import java.math.BigInteger;

/** Boundary cases of sheets, count and digest (section 1, promises 34 to 41): one test for each sentence that names one. */
public final class BoundarySheetsTest {
    private static final Check C = new Check();
    private static final int MANY = Integer.MAX_VALUE, FEW = Integer.MIN_VALUE;
    private static ThroughOthers x;

    public static void main(String[] args) {
        lostAtFirst();
        itemsZeroToSixty();
        zeroAtFirst();
        findingNumbers();
        findingsChangeNothingElse();
        sheetRefused();
        loseTwice();
        lowestBits();
        layInOrder();
        getLeastInt();
        copyAsTheyWere();
        copyRefused();
        copyNull();
        copyStore();
        copyIndex();
        copyNone();
        writeAsManyAsThereAre();
        writeRefused();
        counts();
        countFinding();
        digestWraps();
        usedForManyCalls();
        C.end();
    }

    private static void fill(int s, int form, int n) {
        x.sheet(s, form, n);
        for (int i = 0; i < n; i++) x.lay(s, form, i, i + 1);
    }

    private static void items(int s, int form, int... due) {
        for (int i = 0; i < due.length; i++) C.due("item " + i, x.get(s, form, i), due[i]);
    }

    private static void lostAtFirst() {
        C.sentence("SHEETS 0 .. 3 are LOST (at first)");
        x = new ThroughOthers();
        for (int s = 0; s < 4; s++) for (int form = 0; form < 3; form++) {
            C.due("lay", x.lay(s, form, 0, 1), -11);
            C.due("get", x.get(s, form, 0), FEW);
        }
        for (int s : new int[] {-1, 4, MANY, FEW}) {
            C.due("no SHEET " + s, x.lose(s), -2);
            C.due("none to lay on", x.lay(s, 0, 0, 0), -2);
            C.due("none to make", x.sheet(s, 0, 0), -2);
        }
    }

    private static void itemsZeroToSixty() {
        C.sentence("a row of a FORM: 0 bytes, 1 shorts, 2 ints, of 0 to 60 items");
        x = new ThroughOthers();
        for (int form = 0; form < 3; form++) for (int n : new int[] {0, 1, 59, 60}) {
            C.due("sheet of " + n, x.sheet(3, form, n), n);
            C.due("behind the last", x.lay(3, form, n, 1), -12);
            if (n > 0) C.due("the last", x.lay(3, form, n - 1, 1), 1);
            C.due("how many", x.lose(3), n);
        }
        for (int form : new int[] {-1, 3, MANY, FEW}) C.due("FORM " + form, x.sheet(0, form, 1), -2);
    }

    private static void zeroAtFirst() {
        C.sentence("(0 at first). FINDINGS");
        x = new ThroughOthers();
        for (int form = 0; form < 3; form++) {
            fill(form, form, 60);
            x.sheet(form, form, 60);
            for (int i = 0; i < 60; i++) C.due("item " + i + " of a new row", x.get(form, form, i), 0);
        }
        fill(0, 2, 60);
        x.sheet(0, 2, 1);
        x.sheet(0, 2, 60);
        C.due("what a longer one had is forgotten", x.get(0, 2, 59), 0);
        fill(0, 2, 2);
        x.lose(0);
        x.sheet(0, 2, 2);
        items(0, 2, 0, 0);
    }

    private static void findingNumbers() {
        C.sentence("1 NULL: the SHEET is LOST; 2 INDEX: there is no such item; 3 CAST: it has another FORM; 4 STORE: unlike FORMS; 5 SIZE: below 0.");
        x = new ThroughOthers();
        x.sheet(0, 0, 1);
        x.sheet(1, 1, 1);
        C.due("NULL", x.lay(2, 0, 0, 0), -11);
        C.due("NULL told", x.count(8), 1);
        C.due("INDEX", x.lay(0, 0, 1, 0), -12);
        C.due("INDEX told", x.count(8), 2);
        C.due("CAST", x.lay(0, 1, 0, 0), -13);
        C.due("CAST told", x.count(8), 3);
        C.due("STORE", x.copy(0, 0, 1, 0, 1), -14);
        C.due("STORE told", x.count(8), 4);
        C.due("SIZE", x.sheet(0, 0, -1), -15);
        C.due("SIZE told", x.count(8), 5);
    }

    private static void findingsChangeNothingElse() {
        C.sentence("(answers -10 less the number; they change nothing but count() 8)");
        x = new ThroughOthers();
        fill(0, 0, 3);
        fill(1, 1, 3);
        long before = x.digest();
        x.sheet(0, 2, -1);
        x.lay(0, 0, 3, 9);
        x.lay(0, 2, 0, 9);
        x.copy(0, 0, 1, 0, 3);
        x.copy(0, 0, 0, 1, 3);
        x.copy(2, 0, 0, 0, 1);
        x.lose(2);
        x.read(2, 0);
        x.write(0, 2);
        items(0, 0, 1, 2, 3);
        items(1, 1, 1, 2, 3);
        C.due("all else", x.digest(), before);
        C.due("still LOST", x.get(2, 0, 0), FEW);
    }

    private static void sheetRefused() {
        C.sentence("A SHEET is a new row of a FORM with n items: n. BAD: SHEET, FORM, above 60; SIZE.");
        x = new ThroughOthers();
        fill(0, 0, 2);
        for (int n : new int[] {61, MANY}) C.due("n " + n, x.sheet(0, 0, n), -2);
        for (int n : new int[] {-1, FEW}) {
            C.due("BAD SHEET ahead of SIZE", x.sheet(4, 0, n), -2);
            C.due("BAD FORM ahead of SIZE", x.sheet(0, 3, n), -2);
        }
        C.due("no finding yet", x.count(8), 0);
        for (int n : new int[] {-1, FEW}) C.due("SIZE", x.sheet(0, 2, n), -15);
        items(0, 0, 1, 2);
        C.due("as many as before", x.lose(0), 2);
        C.due("SIZE of a LOST one", x.sheet(0, 2, -1), -15);
        C.due("it is LOST still", x.lose(0), -11);
    }

    private static void loseTwice() {
        C.sentence("It is LOST: how many items it had. BAD; NULL.");
        x = new ThroughOthers();
        for (int s = 0; s < 4; s++) {
            C.due("LOST at first", x.lose(s), -11);
            x.sheet(s, s % 3, 60 - s);
            C.due("how many", x.lose(s), 60 - s);
            C.due("LOST again", x.lose(s), -11);
            x.sheet(s, 0, 0);
            C.due("no items, but not LOST", x.lose(s), 0);
        }
        for (int s : new int[] {-1, 4, MANY, FEW}) C.due("SHEET " + s, x.lose(s), -2);
    }

    private static void lowestBits() {
        C.sentence("becomes v (the lowest bits that it has, with its sign): 1");
        x = new ThroughOthers();
        for (int form = 0; form < 3; form++) x.sheet(form, form, 3);
        int[][] due = {{127, 127, 127}, {128, -128, 128}, {255, -1, 255}, {256, 0, 256}, {-128, -128, -128},
            {-129, 127, -129}, {32767, -1, 32767}, {32768, 0, -32768}, {65535, -1, -1}, {65536, 0, 0},
            {-32768, 0, -32768}, {-32769, -1, 32767}, {MANY, -1, -1}, {FEW, 0, 0}};
        for (int[] d : due) {
            int[] held = {d[1], d[2], d[0]};
            for (int form = 0; form < 3; form++) {
                C.due("lay " + d[0], x.lay(form, form, 1, d[0]), 1);
                items(form, form, 0, held[form], 0);
            }
        }
    }

    private static void layInOrder() {
        C.sentence("BAD; NULL; CAST; INDEX.");
        x = new ThroughOthers();
        x.sheet(0, 1, 2);
        for (int form : new int[] {-1, 3, MANY, FEW}) {
            C.due("BAD ahead of NULL", x.lay(1, form, 9, 1), -2);
            C.due("BAD ahead of CAST, INDEX", x.lay(0, form, 9, 1), -2);
        }
        for (int s : new int[] {-1, 4, MANY, FEW}) C.due("SHEET " + s, x.lay(s, 0, 0, 1), -2);
        C.due("no finding yet", x.count(8), 0);
        C.due("NULL ahead of INDEX", x.lay(1, 0, -1, 1), -11);
        C.due("CAST ahead of INDEX", x.lay(0, 0, 2, 1), -13);
        C.due("CAST", x.lay(0, 2, 0, 1), -13);
        for (int i : new int[] {-1, 2, 60, MANY, FEW}) C.due("INDEX " + i, x.lay(0, 1, i, 1), -12);
        items(0, 1, 0, 0);
        x.sheet(0, 1, 0);
        C.due("INDEX of none", x.lay(0, 1, 0, 1), -12);
    }

    private static void getLeastInt() {
        C.sentence("Item i of it. BAD: the least int; so are NULL, CAST, INDEX (count() 8 tells).");
        x = new ThroughOthers();
        x.sheet(0, 2, 2);
        int[][] bad = {{-1, 2, 0}, {4, 2, 0}, {MANY, 2, 0}, {FEW, 2, 0}, {0, -1, 0}, {0, 3, 9}, {1, 3, 0}};
        for (int[] b : bad) {
            C.due("BAD", x.get(b[0], b[1], b[2]), FEW);
            C.due("is no finding", x.count(8), 0);
        }
        int[][] found = {{1, 2, 9, 1}, {0, 0, 9, 3}, {0, 1, 0, 3}, {0, 2, 2, 2}, {0, 2, -1, 2}, {0, 2, MANY, 2}, {0, 2, FEW, 2}};
        for (int[] f : found) {
            x.sheet(3, 0, -1);
            C.due("finding", x.get(f[0], f[1], f[2]), FEW);
            C.due("count(8)", x.count(8), f[3]);
        }
        x.sheet(3, 0, -1);
        x.lay(0, 2, 1, FEW);
        C.due("an item that is the least int", x.get(0, 2, 1), FEW);
        C.due("leaves the finding", x.count(8), 5);
    }

    private static void copyAsTheyWere() {
        C.sentence("n items of SHEET s, from i on, come to SHEET t (perhaps s, as they were), from j on: 1.");
        x = new ThroughOthers();
        for (int form = 0; form < 3; form++) {
            fill(0, form, 5);
            C.due("onward", x.copy(0, 0, 0, 1, 4), 1);
            items(0, form, 1, 1, 2, 3, 4);
            fill(0, form, 5);
            C.due("backward", x.copy(0, 1, 0, 0, 4), 1);
            items(0, form, 2, 3, 4, 5, 5);
            fill(0, form, 5);
            C.due("in place", x.copy(0, 0, 0, 0, 5), 1);
            items(0, form, 1, 2, 3, 4, 5);
            x.sheet(3, form, 2);
            C.due("the last to the last", x.copy(0, 4, 3, 1, 1), 1);
            items(3, form, 0, 5);
        }
        fill(1, 1, 60);
        x.sheet(2, 1, 60);
        C.due("all of 60", x.copy(1, 0, 2, 0, 60), 1);
        C.due("the last of 60", x.get(2, 1, 59), 60);
        C.due("left as it was", x.get(1, 1, 59), 60);
    }

    private static void copyRefused() {
        C.sentence("BAD: the SHEETS; NULL: s, t");
        x = new ThroughOthers();
        for (int s : new int[] {-1, 4, MANY, FEW}) {
            C.due("from " + s, x.copy(s, 0, 0, 0, 0), -2);
            C.due("to " + s, x.copy(0, 0, s, 0, 0), -2);
            C.due("from and to " + s, x.copy(s, -1, s, -1, -1), -2);
        }
        C.due("BAD ahead of NULL: no finding", x.count(8), 0);
    }

    private static void copyNull() {
        C.sentence("NULL: s, t; STORE");
        x = new ThroughOthers();
        fill(0, 0, 2);
        C.due("s is LOST", x.copy(1, 0, 0, 0, 0), -11);
        C.due("t is LOST", x.copy(0, 0, 1, 0, 0), -11);
        C.due("both are", x.copy(1, 0, 2, 0, 0), -11);
        C.due("the same one is", x.copy(1, 0, 1, 0, 0), -11);
        C.due("NULL ahead of INDEX", x.copy(0, -1, 1, 0, 99), -11);
        C.due("told", x.count(8), 1);
    }

    private static void copyStore() {
        C.sentence("NULL: s, t; STORE; INDEX");
        x = new ThroughOthers();
        for (int form = 0; form < 3; form++) fill(form, form, 2);
        for (int s = 0; s < 3; s++) for (int t = 0; t < 3; t++) {
            C.due("of FORM " + s + " to " + t, x.copy(s, 0, t, 0, 1), s == t ? 1 : -14);
            C.due("none of FORM " + s + " to " + t, x.copy(s, 0, t, 0, 0), s == t ? 1 : -14);
            C.due("STORE ahead of INDEX", x.copy(s, -1, t, 9, -1), s == t ? -12 : -14);
        }
        for (int form = 0; form < 3; form++) items(form, form, 1, 2);
    }

    private static void copyIndex() {
        C.sentence("INDEX: below 0, not so many");
        x = new ThroughOthers();
        fill(0, 2, 4);
        fill(1, 2, 3);
        int[][] bad = {{-1, 0, 1}, {0, -1, 1}, {0, 0, -1}, {FEW, 0, 1}, {0, FEW, 1}, {0, 0, FEW}, {-1, -1, -1},
            {2, 0, 3}, {4, 0, 1}, {0, 1, 3}, {0, 3, 1}, {0, 0, 4}, {0, 0, 5}, {1, 0, MANY}, {MANY, 0, 1},
            {0, MANY, 1}, {MANY, MANY, MANY}, {-1, 0, 0}, {0, -1, 0}, {4, 3, -1}};
        for (int[] b : bad) {
            x.lose(3);
            C.due("copy(0, " + b[0] + ", 1, " + b[1] + ", " + b[2] + ")", x.copy(0, b[0], 1, b[1], b[2]), -12);
            C.due("told", x.count(8), 2);
        }
        items(0, 2, 1, 2, 3, 4);
        items(1, 2, 1, 2, 3);
    }

    private static void copyNone() {
        C.sentence("(with n 0, too, if i or j is above how many there are)");
        x = new ThroughOthers();
        fill(0, 0, 4);
        fill(1, 0, 3);
        C.due("just at how many there are", x.copy(0, 4, 1, 3, 0), 1);
        C.due("no finding", x.count(8), 0);
        C.due("i above", x.copy(0, 5, 1, 0, 0), -12);
        C.due("j above", x.copy(0, 0, 1, 4, 0), -12);
        C.due("i far above", x.copy(0, MANY, 1, 0, 0), -12);
        C.due("j far above", x.copy(0, 0, 1, MANY, 0), -12);
        x.sheet(2, 0, 0);
        C.due("none of none", x.copy(2, 0, 2, 0, 0), 1);
        C.due("above none", x.copy(2, 1, 2, 0, 0), -12);
        C.due("one of none", x.copy(2, 0, 0, 0, 1), -12);
        items(0, 0, 1, 2, 3, 4);
        items(1, 0, 1, 2, 3);
    }

    private static void writeAsManyAsThereAre() {
        C.sentence("from item 0 on, as many as there are items and PERSONS: how many");
        x = new ThroughOthers();
        x.persons(9);
        x.tie(8, 0, true);
        x.tie(8, 7, true);
        for (int form = 0; form < 3; form++) {
            x.sheet(0, form, 0);
            C.due("no items", x.write(8, 0), 0);
            fill(0, form, 1);
            C.due("one item", x.write(8, 0), 1);
            items(0, form, 1);
            fill(0, form, 9);
            C.due("an item for each", x.write(8, 0), 9);
            items(0, form, 1, 0, 0, 0, 0, 0, 0, 1, 0);
            fill(0, form, 60);
            C.due("more items than PERSONS", x.write(7, 0), 9);
            items(0, form, 0, 0, 0, 0, 0, 0, 0, 0, 1, 10, 11);
        }
        x.persons(1);
        fill(0, 0, 2);
        C.due("one PERSON", x.write(0, 0), 1);
        items(0, 0, 0, 2);
    }

    private static void writeRefused() {
        C.sentence("as many as there are items and PERSONS: how many. BAD; NULL.");
        x = new ThroughOthers();
        for (int p : new int[] {-1, 6, 8, MANY, FEW}) C.due("PERSON " + p + ", ahead of NULL", x.write(p, 0), -2);
        for (int s : new int[] {-1, 4, MANY, FEW}) C.due("SHEET " + s, x.write(0, s), -2);
        C.due("no finding yet", x.count(8), 0);
        for (int s = 0; s < 4; s++) C.due("NULL", x.write(0, s), -11);
        C.due("told", x.count(8), 1);
    }

    private static void counts() {
        C.sentence("9 signs of all MARKS. BAD.");
        x = new ThroughOthers();
        for (int what : new int[] {-1, 10, 11, MANY, FEW}) C.due("what " + what, x.count(what), -2);
        int[] least = {1, 0, 0, 0, 0, 0, -1, 1, 0, 0};
        x.persons(1);
        x.set(1, 1);
        for (int what = 0; what < 10; what++) C.due("the least of " + what, x.count(what), least[what]);
        x.persons(9);
        for (int a = 0; a < 9; a++) {
            for (int b = 0; b < a; b++) x.tie(a, b, true);
            x.kind(a, 1);
        }
        for (int r = 0; r < 24; r++) {
            x.came(-1, 0, 1, 0);
            for (int i = 0; i < 8; i++) x.type(r, '?');
        }
        x.set(0, 8);
        x.set(1, 7);
        x.sheet(0, 0, -1);
        int[] most = {9, 36, 511, 24, 24, 24, 8, 7, 5, 192};
        for (int what = 0; what < 10; what++) C.due("the most of " + what, x.count(what), most[what]);
        for (int r = 0; r < 24; r++) x.takeBack(r, 0);
        int[] back = {9, 36, 511, 24, 0, 0, 8, 7, 5, 192};
        for (int what = 0; what < 10; what++) C.due("all TAKEN BACK, " + what, x.count(what), back[what]);
    }

    private static void countFinding() {
        C.sentence("8 the number of the latest FINDING (0 before any)");
        x = new ThroughOthers();
        x.persons(0);
        x.lose(9);
        x.came(5, 0, 1, 0);
        C.due("refusals that are none", x.count(8), 0);
        x.lose(0);
        C.due("NULL", x.count(8), 1);
        x.sheet(0, 0, 1);
        x.lay(0, 0, 0, 1);
        x.lose(0);
        C.due("right calls leave it", x.count(8), 1);
        x.sheet(0, 0, -1);
        C.due("the latest", x.count(8), 5);
        x.lose(0);
        C.due("the latest, again NULL", x.count(8), 1);
    }

    private static void digestWraps() {
        C.sentence("(as it is told); as longs that wrap");
        x = new ThroughOthers();
        C.due("of a new object", x.digest(), exact().longValue());
        C.due("which has wrapped", exact().bitLength() > 63 ? 1 : 0, 1);
        x.persons(1);
        C.due("of one PERSON", x.digest(), exact().longValue());
        x.persons(9);
        for (int p = 0; p < 9; p++) {
            x.tie(p, (p + 1) % 9, true);
            x.kind(p, p / 5);
        }
        for (int r = 0; r < 24; r++) x.came(r == 0 ? -1 : (r - 1) / 3, r % 2, 1 + r % 20, r);
        C.due("of as much as can be told", x.digest(), exact().longValue());
        x.set(2, 0);
        x.set(3, 9);
        C.due("with refusals, as they are told", x.digest(), exact().longValue());
    }

    private static BigInteger sum;

    private static void then(long v) {
        sum = sum.multiply(BigInteger.valueOf(31)).add(BigInteger.valueOf(v));
    }

    /** The digest without any wrapping. */
    private static BigInteger exact() {
        sum = BigInteger.valueOf(17);
        for (int what = 0; what <= 7; what++) then(x.count(what));
        then(x.count(9));
        for (int p = 0; p < x.count(0); p++) {
            for (int what = 0; what < 2; what++) then(x.about(p, what));
            for (int what = 0; what < 2; what++) then(x.found(p, what));
        }
        for (int what = 0; what < 2; what++) then(x.within(10, what));
        for (int r = 0; r < x.count(3); r++) for (int what = 0; what < 8; what++) then(x.record(r, what));
        for (int how = 0; how < 3; how++) for (int what = 0; what < 2; what++) then(x.share(how, what));
        then(x.alike(0));
        for (int what = 0; what < 2; what++) then(x.parts(what));
        for (int what = 0; what < 3; what++) then(x.narrow(what));
        return sum;
    }

    private static void usedForManyCalls() {
        C.sentence("An object is used for at most 512 calls after it has been made");
        x = new ThroughOthers();
        for (int i = 0; i < 510; i++) x.tie(i % 5, i % 5 + 1, i / 5 % 2 == 0);
        x.tie(0, 5, true);
        C.due("the 512th call", x.far(5, 0), 1);
    }
}
