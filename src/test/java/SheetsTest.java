/** Promises 34 to 41. */
public final class SheetsTest {
    private static final Check C = new Check();
    private static final int LEAST = Integer.MIN_VALUE, MANY = Integer.MAX_VALUE;
    private static ThroughOthers x;

    public static void main(String[] args) {
        sheet();
        lose();
        layAndGet();
        findings();
        copy();
        copyRefused();
        write();
        count();
        digest();
        C.end();
    }

    private static void sheet() {
        x = new ThroughOthers();
        int[][] bad = {{4, 0, 1}, {-1, 0, 1}, {0, 3, 1}, {0, -1, 1}, {0, 0, 61}, {0, 0, MANY}, {4, 0, -1}, {0, 3, -1}};
        for (int[] b : bad) C.due("sheet(" + b[0] + ", " + b[1] + ", " + b[2] + ")", x.sheet(b[0], b[1], b[2]), -2);
        C.due("no finding", x.count(8), 0);
        C.due("SIZE", x.sheet(0, 0, -1), -15);
        C.due("SIZE far", x.sheet(0, 0, LEAST), -15);
        C.due("finding SIZE", x.count(8), 5);
        C.due("still LOST", x.lose(0), -11);
        C.due("60", x.sheet(0, 0, 60), 60);
        x.lay(0, 0, 59, 5);
        C.due("SIZE again", x.sheet(0, 1, -1), -15);
        C.due("the row is as it was", x.get(0, 0, 59), 5);
        C.due("anew", x.sheet(0, 0, 60), 60);
        C.due("items are 0", x.get(0, 0, 59), 0);
        C.due("none", x.sheet(0, 2, 0), 0);
        C.due("no item", x.get(0, 2, 0), LEAST);
    }

    private static void lose() {
        x = new ThroughOthers();
        x.sheet(3, 1, 7);
        C.due("lose", x.lose(3), 7);
        C.due("no finding", x.count(8), 0);
        C.due("lose again", x.lose(3), -11);
        C.due("finding", x.count(8), 1);
        C.due("lose BAD", x.lose(4), -2);
        C.due("lose BAD", x.lose(-1), -2);
        x.sheet(3, 1, 7);
        C.due("there again", x.get(3, 1, 6), 0);
    }

    private static void layAndGet() {
        x = new ThroughOthers();
        for (int form = 0; form < 3; form++) x.sheet(form, form, 2);
        int[] laid = {127, 128, 255, 256, -1, -129, 32767, 32768, 65535, 65536, LEAST, MANY};
        for (int v : laid) {
            int[] due = {(byte) v, (short) v, v};
            for (int form = 0; form < 3; form++) {
                C.due("lay " + v, x.lay(form, form, 1, v), 1);
                C.due("get " + v, x.get(form, form, 1), due[form]);
                C.due("the other item", x.get(form, form, 0), 0);
            }
        }
        C.due("no finding", x.count(8), 0);
    }

    private static void findings() {
        x = new ThroughOthers();
        x.sheet(0, 1, 2);
        int[][] bad = {{4, 0, 0}, {-1, 0, 0}, {0, 3, 0}, {0, -1, 0}, {1, 3, 0}};
        for (int[] b : bad) {
            C.due("lay BAD", x.lay(b[0], b[1], b[2], 1), -2);
            C.due("get BAD", x.get(b[0], b[1], b[2]), LEAST);
            C.due("no finding", x.count(8), 0);
        }
        // SHEET, FORM, item, finding: NULL ahead of INDEX, CAST ahead of INDEX.
        int[][] found = {{1, 0, 9, 1}, {0, 0, 0, 3}, {0, 2, 9, 3}, {0, 1, 2, 2}, {0, 1, -1, 2}, {0, 1, MANY, 2}, {0, 1, LEAST, 2}};
        for (int[] f : found) {
            x.lose(3);
            C.due("lay finding", x.lay(f[0], f[1], f[2], 1), -10 - f[3]);
            C.due("count(8) by lay", x.count(8), f[3]);
            x.lose(3);
            C.due("get finding", x.get(f[0], f[1], f[2]), LEAST);
            C.due("count(8) by get", x.count(8), f[3]);
        }
        C.due("a right call leaves it", x.lay(0, 1, 0, 4), 1);
        C.due("count(8) stays", x.count(8), 2);
        C.due("item", x.get(0, 1, 0), 4);
        C.due("item", x.get(0, 1, 1), 0);
    }

    private static void fill(int s, int form, int n) {
        x.sheet(s, form, n);
        for (int i = 0; i < n; i++) x.lay(s, form, i, i + 1);
    }

    private static void items(String name, int s, int form, int... due) {
        for (int i = 0; i < due.length; i++) C.due(name + " item " + i, x.get(s, form, i), due[i]);
    }

    private static void copy() {
        x = new ThroughOthers();
        fill(0, 0, 4);
        x.sheet(1, 0, 3);
        C.due("copy", x.copy(0, 1, 1, 0, 3), 1);
        items("copied", 1, 0, 2, 3, 4);
        items("left", 0, 0, 1, 2, 3, 4);
        C.due("copy on", x.copy(0, 0, 0, 1, 3), 1);
        items("as they were", 0, 0, 1, 1, 2, 3);
        fill(0, 0, 4);
        C.due("copy back", x.copy(0, 1, 0, 0, 3), 1);
        items("as they were", 0, 0, 2, 3, 4, 4);
        C.due("none at the end", x.copy(0, 4, 1, 3, 0), 1);
        C.due("none from 0", x.copy(0, 0, 1, 0, 0), 1);
        C.due("no finding", x.count(8), 0);
    }

    private static void copyRefused() {
        x = new ThroughOthers();
        fill(0, 0, 4);
        fill(1, 0, 3);
        fill(2, 1, 3);
        int[][] bad = {{4, 0, 0, 0, 0}, {0, 0, 4, 0, 0}, {-1, 0, 0, 0, 0}, {3, 0, -1, 0, 0}};
        for (int[] b : bad) C.due("copy BAD", x.copy(b[0], b[1], b[2], b[3], b[4]), -2);
        C.due("no finding", x.count(8), 0);
        int[][] found = {{3, 0, 0, 0, 0, 1}, {0, 0, 3, 0, 0, 1}, {3, 9, 3, 9, 9, 1}, {0, 0, 2, 0, 0, 4}, {0, -1, 2, 0, 9, 4},
            {0, -1, 1, 0, 1, 2}, {0, 0, 1, -1, 1, 2}, {0, 0, 1, 0, -1, 2}, {0, 2, 1, 0, 3, 2}, {0, 0, 1, 1, 3, 2},
            {0, 5, 1, 0, 0, 2}, {0, 0, 1, 4, 0, 2}, {0, 1, 1, 0, MANY, 2}, {0, MANY, 1, 0, 1, 2}, {0, 0, 1, MANY, MANY, 2},
            {0, 0, 1, 0, LEAST, 2}, {0, LEAST, 1, 0, 1, 2}};
        for (int[] f : found) {
            C.due("copy finding", x.copy(f[0], f[1], f[2], f[3], f[4]), -10 - f[5]);
            C.due("count(8)", x.count(8), f[5]);
        }
        items("nothing changed", 0, 0, 1, 2, 3, 4);
        items("nothing changed", 1, 0, 1, 2, 3);
        items("nothing changed", 2, 1, 1, 2, 3);
    }

    private static void write() {
        x = new ThroughOthers();
        x.tie(1, 0, true);
        x.tie(1, 3, true);
        x.tie(1, 5, true);
        C.due("write NULL", x.write(1, 0), -11);
        C.due("write BAD", x.write(6, 0), -2);
        C.due("write BAD", x.write(-1, 0), -2);
        C.due("write BAD", x.write(1, 4), -2);
        C.due("write BAD", x.write(1, -1), -2);
        fill(0, 0, 8);
        C.due("as many as PERSONS", x.write(1, 0), 6);
        items("written", 0, 0, 1, 0, 0, 1, 0, 1, 7, 8);
        fill(1, 2, 4);
        C.due("as many as items", x.write(1, 1), 4);
        items("written", 1, 2, 1, 0, 0, 1);
        fill(2, 1, 2);
        C.due("of one tied to 1 alone", x.write(3, 2), 2);
        items("written", 2, 1, 0, 1);
        x.sheet(2, 1, 0);
        C.due("none", x.write(1, 2), 0);
        C.due("back", x.read(0, 2), 6);
        C.due("tied as 1 is, but for itself", x.about(2, 0), 3);
    }

    private static void count() {
        x = new ThroughOthers();
        x.persons(7);
        x.tie(0, 6, true);
        x.tie(0, 5, true);
        x.kind(6, 1);
        x.kind(0, 1);
        x.came(-1, 0, 1, 0);
        x.came(-1, 0, 1, 0);
        x.came(1, 0, 1, 0);
        x.takeBack(0, 0);
        x.set(0, 6);
        x.set(1, 2);
        x.sheet(0, 0, -1);
        x.type(2, 'a');
        x.type(0, 'a');
        int[] due = {7, 2, 65, 3, 2, 1, 6, 2, 5, 2};
        for (int what = 0; what < 10; what++) C.due("count(" + what + ")", x.count(what), due[what]);
        for (int what : new int[] {-1, 10, MANY, LEAST}) C.due("count(" + what + ")", x.count(what), -2);
    }

    private static void digest() {
        x = new ThroughOthers();
        C.due("new digest", x.digest(), byHand());
        count();
        C.due("digest", x.digest(), byHand());
        x.came(2, 1, 4, 3);
        x.came(3, 0, -1, 4);
        C.due("digest with shares", x.digest(), byHand());
        long before = x.digest();
        x.sheet(0, 0, 4);
        x.lay(0, 0, 9, 1);
        C.due("SHEETS and findings are not told", x.digest(), before);
        C.due("it leaves the finding", x.count(8), 2);
        x.set(1, 3);
        C.due("LENGTH is told", x.digest() == before ? 1 : 0, 0);
    }

    private static long h;

    private static void next(long v) {
        h = 31 * h + v;
    }

    private static long byHand() {
        h = 17;
        for (int what : new int[] {0, 1, 2, 3, 4, 5, 6, 7, 9}) next(x.count(what));
        for (int p = 0; p < x.count(0); p++) {
            next(x.about(p, 0));
            next(x.about(p, 1));
            next(x.found(p, 0));
            next(x.found(p, 1));
        }
        next(x.within(10, 0));
        next(x.within(10, 1));
        for (int r = 0; r < x.count(3); r++) for (int what = 0; what < 8; what++) next(x.record(r, what));
        for (int how = 0; how < 3; how++) {
            next(x.share(how, 0));
            next(x.share(how, 1));
        }
        next(x.alike(0));
        next(x.parts(0));
        next(x.parts(1));
        for (int what = 0; what < 3; what++) next(x.narrow(what));
        return h;
    }
}
