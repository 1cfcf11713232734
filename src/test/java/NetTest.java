/** Promises 1 to 7. */
public final class NetTest {
    private static final Check C = new Check();

    public static void main(String[] args) {
        newObject();
        persons();
        tie();
        kind();
        read();
        about();
        far();
        C.end();
    }

    private static void newObject() {
        ThroughOthers x = new ThroughOthers();
        int[] due = {6, 0, 0, 0, 0, 0, -1, 4, 0, 0};
        for (int what = 0; what < due.length; what++) C.due("new count(" + what + ")", x.count(what), due[what]);
        C.due("new AS OF", x.set(2, 99), 99);
        C.due("new FROM", x.set(3, 0), 0);
        for (int p = 0; p < 6; p++) {
            C.due("new DEGREE", x.about(p, 0), 0);
            C.due("new KIND", x.about(p, 1), 0);
        }
        for (int s = 0; s < 4; s++) C.due("new lose(" + s + ")", x.lose(s), -11);
    }

    private static void persons() {
        ThroughOthers x = new ThroughOthers();
        x.tie(0, 1, true);
        x.tie(0, 5, true);
        x.kind(5, 1);
        x.kind(1, 1);
        for (int n : new int[] {0, 10, -1, Integer.MIN_VALUE, Integer.MAX_VALUE}) C.due("persons(" + n + ")", x.persons(n), -2);
        C.due("refused persons", x.count(0), 6);
        C.due("persons(6)", x.persons(6), 6);
        C.due("same persons keep", x.count(1), 2);
        x.set(0, 5);
        C.due("persons(5)", x.persons(5), 6);
        C.due("START is forgotten", x.count(6), -1);
        x.set(0, 4);
        C.due("persons(5) again", x.persons(5), 5);
        C.due("START is kept", x.count(6), 4);
        C.due("persons(9)", x.persons(9), 5);
        C.due("START is kept, more", x.count(6), 4);
        C.due("forgotten TIE", x.about(0, 0), 1);
        C.due("forgotten TIE of 5", x.about(5, 0), 0);
        C.due("forgotten KIND", x.about(5, 1), 0);
        C.due("kept KIND", x.about(1, 1), 1);
        C.due("person 8", x.about(8, 0), 0);
        C.due("persons(1)", x.persons(1), 9);
        C.due("no TIES", x.count(1), 0);
        C.due("found alone", x.found(0, 1), 1);
    }

    private static void tie() {
        ThroughOthers x = new ThroughOthers();
        C.due("no tie already", x.tie(0, 1, false), 0);
        C.due("tie", x.tie(0, 1, true), 1);
        C.due("tie already", x.tie(1, 0, true), 0);
        C.due("both ways", x.about(0, 0) + 10 * x.about(1, 0), 11);
        C.due("untie", x.tie(1, 0, false), 1);
        C.due("untied", x.count(1), 0);
        int[][] bad = {{0, 0}, {0, 6}, {6, 0}, {-1, 0}, {0, -1}, {5, 5}, {Integer.MAX_VALUE, 0}, {0, Integer.MIN_VALUE}};
        for (int[] b : bad) {
            C.due("tie(" + b[0] + ", " + b[1] + ")", x.tie(b[0], b[1], true), -2);
            C.due("untie(" + b[0] + ", " + b[1] + ")", x.tie(b[0], b[1], false), -2);
        }
        C.due("refused ties", x.count(1), 0);
    }

    private static void kind() {
        ThroughOthers x = new ThroughOthers();
        C.due("kind(2, 1)", x.kind(2, 1), 0);
        C.due("kind(2, 1) again", x.kind(2, 1), 1);
        C.due("bits", x.count(2), 4);
        int[][] bad = {{6, 1}, {-1, 1}, {0, 2}, {0, -1}, {Integer.MIN_VALUE, 0}};
        for (int[] b : bad) C.due("kind(" + b[0] + ", " + b[1] + ")", x.kind(b[0], b[1]), -2);
        C.due("kind(2, 0)", x.kind(2, 0), 1);
        C.due("no bits", x.count(2), 0);
    }

    private static void read() {
        ThroughOthers x = new ThroughOthers();
        C.due("read BAD sheet", x.read(4, 0), -2);
        C.due("read BAD sheet", x.read(-1, 0), -2);
        C.due("read BAD ahead of NULL", x.read(0, 6), -2);
        C.due("read BAD person", x.read(0, -1), -2);
        C.due("no finding", x.count(8), 0);
        C.due("read NULL", x.read(0, 0), -11);
        C.due("finding", x.count(8), 1);
        x.sheet(0, 1, 0);
        C.due("read none", x.read(0, 0), 0);
        x.sheet(0, 2, 4);
        x.tie(1, 3, true);
        x.tie(1, 4, true);
        x.tie(1, 5, true);
        x.lay(0, 2, 0, 1);
        x.lay(0, 2, 1, 7);
        C.due("its own is passed over", x.read(0, 1), 4);
        C.due("tied to 0", x.far(0, 1), 1);
        C.due("no longer to 3", x.far(1, 3), -1);
        C.due("not told of 4", x.far(1, 4), 1);
        C.due("not told of 5", x.far(1, 5), 1);
        C.due("stops at 7", x.read(0, 2), 1);
        C.due("as far as it went", x.far(0, 2), 1);
        x.lay(0, 2, 0, -1);
        C.due("stops at once", x.read(0, 4), 0);
        C.due("its own first", x.read(0, 0), 1);
        x.sheet(1, 0, 60);
        C.due("as many as PERSONS", x.read(1, 0), 6);
        C.due("all untied", x.about(0, 0), 0);
    }

    private static void about() {
        ThroughOthers x = new ThroughOthers();
        x.tie(0, 1, true);
        x.tie(0, 2, true);
        x.kind(0, 1);
        C.due("DEGREE", x.about(0, 0), 2);
        C.due("KIND", x.about(0, 1), 1);
        int[][] bad = {{6, 0}, {-1, 0}, {0, 2}, {0, -1}, {Integer.MAX_VALUE, 1}};
        for (int[] b : bad) C.due("about(" + b[0] + ", " + b[1] + ")", x.about(b[0], b[1]), -2);
    }

    private static void far() {
        ThroughOthers x = new ThroughOthers();
        x.persons(9);
        for (int p = 0; p < 8; p++) x.tie(p, p + 1, true);
        C.due("far(0, 8)", x.far(0, 8), 8);
        C.due("far(8, 0)", x.far(8, 0), 8);
        C.due("far(3, 3)", x.far(3, 3), 0);
        x.tie(0, 8, true);
        C.due("the shorter way", x.far(0, 5), 4);
        x.tie(2, 3, false);
        x.tie(7, 8, false);
        C.due("no way", x.far(0, 5), -1);
        C.due("far BAD", x.far(9, 0), -2);
        C.due("far BAD", x.far(0, 9), -2);
        C.due("far BAD", x.far(-1, 0), -2);
        C.due("far BAD", x.far(9, 9), -2);
    }
}
