import java.util.Random;

/** Promises 26 to 30. */
public final class MarksTest {
    private static final Check C = new Check();
    private static ThroughOthers x;

    public static void main(String[] args) {
        type();
        clash();
        least();
        leastRow();
        full();
        many();
        C.end();
    }

    private static void seeds(int n) {
        x = new ThroughOthers();
        for (int i = 0; i < n; i++) x.came(-1, 0, 1, 0);
    }

    private static void text(int record, String signs) {
        x.wipe(record);
        for (char sign : signs.toCharArray()) x.type(record, sign);
    }

    private static void type() {
        seeds(2);
        C.due("a", x.type(0, 'a'), 1);
        C.due("z", x.type(0, 'z'), 2);
        C.due("?", x.type(0, '?'), 3);
        for (int b : new int[] {0, 'a' - 1, 'z' + 1, 'A', ' ', '?' - 1, '?' + 1, 255}) C.due("type " + b, x.type(0, b), -3);
        for (int b : new int[] {-1, 256, 'a' + 256, Integer.MIN_VALUE, Integer.MAX_VALUE}) C.due("type " + b, x.type(0, b), -2);
        for (int r : new int[] {2, -1, Integer.MAX_VALUE}) {
            C.due("type of " + r, x.type(r, 'a'), -2);
            C.due("wipe of " + r, x.wipe(r), -2);
            C.due("BAD ahead of NOT", x.type(r, 'A'), -2);
        }
        C.due("signs of all", x.count(9), 3);
        for (int i = 4; i <= 8; i++) C.due("sign " + i, x.type(0, 'b'), i);
        C.due("FULL", x.type(0, 'b'), -4);
        C.due("NOT ahead of FULL", x.type(0, 'B'), -3);
        C.due("BAD ahead of FULL", x.type(0, 256), -2);
        C.due("the other one", x.type(1, 'b'), 1);
        C.due("signs of all", x.count(9), 9);
        C.due("wipe", x.wipe(0), 8);
        C.due("wipe again", x.wipe(0), 0);
        C.due("signs left", x.count(9), 1);
        C.due("anew", x.type(0, 'c'), 1);
        x.takeBack(1, 0);
        C.due("one that does not COUNT", x.type(1, 'c'), 2);
        C.due("signs of it, too", x.count(9), 3);
        C.due("wipe of it", x.wipe(1), 2);
    }

    private static void clash() {
        seeds(2);
        String[][] pairs = {{"", ""}, {"a", ""}, {"a", "a"}, {"a", "b"}, {"?", "b"}, {"a?", "ab"}, {"ab", "ac"},
            {"ab", "abc"}, {"?b", "a?"}, {"abcdefgh", "abcdefgi"}, {"abcdefg", "abcdefgi"}, {"?????????", "abcdefgi"}};
        int[] due = {0, 0, 0, 1, 0, 0, 1, 0, 0, 1, 0, 0};
        for (int i = 0; i < pairs.length; i++) {
            text(0, pairs[i][0]);
            text(1, pairs[i][1]);
            C.due("clash of " + pairs[i][0] + " " + pairs[i][1], x.clash(0, 1), due[i]);
            C.due("clash the other way", x.clash(1, 0), due[i]);
            C.due("clash with itself", x.clash(0, 0), 0);
        }
        text(0, "a");
        text(1, "b");
        text(0, "b");
        C.due("wiped signs are forgotten", x.clash(0, 1), 0);
        int[][] bad = {{2, 0}, {0, 2}, {-1, 0}, {0, -1}, {Integer.MAX_VALUE, 0}};
        for (int[] b : bad) C.due("clash(" + b[0] + ", " + b[1] + ")", x.clash(b[0], b[1]), -2);
        text(0, "a");
        x.takeBack(0, 0);
        C.due("one that does not COUNT", x.clash(0, 1), 1);
    }

    private static void least() {
        seeds(0);
        C.due("none", x.least(), 0);
        C.due("ones of none", x.ones(0), -2);
        seeds(4);
        C.due("no MARKS", x.least(), 1);
        C.due("all one", x.ones(3), 0);
        text(0, "a");
        text(1, "b");
        text(2, "c");
        C.due("three and any", x.least(), 3);
        int[] due = {0, 1, 2, 0};
        for (int r = 0; r < 4; r++) C.due("ones(" + r + ")", x.ones(r), due[r]);
        x.takeBack(0, 0);
        C.due("two and any", x.least(), 2);
        C.due("does not COUNT", x.ones(0), -1);
        C.due("numbers from 0", x.ones(1), 0);
        C.due("numbers on", x.ones(2), 1);
        C.due("BAD", x.ones(4), -2);
        C.due("BAD", x.ones(-1), -2);
    }

    /** Six in a ring of CLASHES, in an order in which the first fitting PERSON each time needs three. */
    private static void leastRow() {
        seeds(6);
        int[][] clashes = {{0, 3}, {0, 5}, {2, 1}, {2, 5}, {4, 1}, {4, 3}};
        for (int r = 0; r < 6; r++) {
            StringBuilder signs = new StringBuilder();
            for (int[] pair : clashes) signs.append(r == pair[0] ? 'a' : r == pair[1] ? 'b' : '?');
            text(r, signs.toString());
        }
        C.due("0 and 1 do not CLASH", x.clash(0, 1), 0);
        C.due("two", x.least(), 2);
        for (int r = 0; r < 6; r++) C.due("ring ones(" + r + ")", x.ones(r), r % 2);
        // Five in a ring need three, though no three CLASH with one another.
        seeds(5);
        for (int r = 0; r < 5; r++) {
            StringBuilder signs = new StringBuilder("?????");
            signs.setCharAt(r, 'a');
            signs.setCharAt((r + 1) % 5, 'b');
            text(r, signs.toString());
        }
        C.due("three", x.least(), 3);
        int[] due = {0, 1, 0, 1, 2};
        for (int r = 0; r < 5; r++) C.due("five ones(" + r + ")", x.ones(r), due[r]);
    }

    private static void full() {
        seeds(12);
        for (int r = 0; r < 12; r++) text(r, "" + (char) ('a' + r));
        C.due("twelve", x.least(), 12);
        C.due("the twelfth", x.ones(11), 11);
        x.came(-1, 0, 1, 1);
        C.due("FULL", x.least(), -4);
        C.due("FULL ones", x.ones(0), -4);
        C.due("BAD ahead of FULL", x.ones(13), -2);
        x.set(2, 0);
        C.due("as of then twelve", x.least(), 12);
        C.due("not told by then", x.ones(12), -1);
        x.set(2, 99);
        x.takeBack(0, 1);
        C.due("twelve again", x.least(), 11);
        C.due("the thirteenth", x.ones(12), 0);
    }

    /** Many CLASHES by fixed seeds, against Reference. */
    private static void many() {
        for (int seed = 0; seed < 150; seed++) {
            Random random = new Random(seed);
            int n = 3 + random.nextInt(8);
            String known = seed % 3 == 0 ? "ab??" : seed % 3 == 1 ? "abc?" : "ab???";
            seeds(n);
            Reference due = new Reference();
            for (int r = 0; r < n; r++) {
                due.came(-1, 0, 1, 0);
                for (int i = random.nextInt(7); i >= 0; i--) {
                    char sign = known.charAt(random.nextInt(known.length()));
                    x.type(r, sign);
                    due.type(r, sign);
                }
            }
            C.due("many least, seed " + seed, x.least(), due.least());
            for (int r = 0; r < n; r++) C.due("many ones(" + r + "), seed " + seed, x.ones(r), due.ones(r));
        }
    }
}
