/** Boundary cases of marks (section 4, promises 26 to 30): one test for each sentence that names one. */
public final class BoundaryMarksTest {
    private static final Check C = new Check();
    private static final int MANY = Integer.MAX_VALUE, FEW = Integer.MIN_VALUE;
    private static ThroughOthers x;

    public static void main(String[] args) {
        upToEightSigns();
        letters();
        aByte();
        typeInOrder();
        wipeRefused();
        signAtSomePlace();
        clashRefused();
        twelveAtMost();
        leastFull();
        fewest();
        fewestOfTwelve();
        fromZero();
        eachTimeTheLeast();
        doesNotCount();
        onesRefused();
        C.end();
    }

    private static void seeds(int n) {
        x = new ThroughOthers();
        for (int i = 0; i < n; i++) x.came(-1, 0, 1, 0);
    }

    private static void text(int record, String signs) {
        x.wipe(record);
        for (char sign : signs.toCharArray()) x.type(record, sign);
    }

    private static void texts(String... signs) {
        seeds(signs.length);
        for (int r = 0; r < signs.length; r++) text(r, signs[r]);
    }

    private static void ones(int... due) {
        for (int r = 0; r < due.length; r++) C.due("ones(" + r + ")", x.ones(r), due[r]);
    }

    private static void upToEightSigns() {
        C.sentence("a text of up to 8 signs");
        seeds(24);
        for (int r : new int[] {0, 23}) {
            for (int i = 1; i <= 8; i++) C.due("sign " + i, x.type(r, 'a' + i), i);
            C.due("one more", x.type(r, 'a'), -4);
            C.due("one more not known", x.type(r, '?'), -4);
        }
        C.due("signs of all", x.count(9), 16);
        C.due("wiped", x.wipe(0), 8);
        C.due("room again", x.type(0, 'a'), 1);
        C.due("the other is FULL still", x.type(23, 'a'), -4);
    }

    private static void letters() {
        C.sentence("(letters a to z, or ? for not known; told sign by sign)");
        seeds(1);
        for (int b = 0; b <= 255; b++) {
            boolean sign = b >= 97 && b <= 122 || b == 63;
            C.due("sign " + b, x.type(0, b), sign ? 1 : -3);
            C.due("wiped", x.wipe(0), sign ? 1 : 0);
        }
    }

    private static void aByte() {
        C.sentence("A sign (a byte 0 to 255) comes behind MARKS of a RECORD: how many.");
        seeds(1);
        for (int b : new int[] {-1, 256, 97 + 256, 97 - 256, 63 + 256, MANY, FEW}) C.due("byte " + b, x.type(0, b), -2);
        C.due("0", x.type(0, 0), -3);
        C.due("255", x.type(0, 255), -3);
        C.due("no sign came", x.count(9), 0);
    }

    private static void typeInOrder() {
        C.sentence("BAD; NOT: it is none of a to z, ?; FULL.");
        seeds(1);
        text(0, "abcdefgh");
        C.due("FULL", x.type(0, 'a'), -4);
        C.due("NOT ahead of FULL", x.type(0, 'A'), -3);
        C.due("BAD ahead of FULL", x.type(0, 256), -2);
        for (int r : new int[] {-1, 1, MANY, FEW}) {
            C.due("RECORD " + r, x.type(r, 'a'), -2);
            C.due("BAD ahead of NOT", x.type(r, 'A'), -2);
        }
        C.due("eight", x.count(9), 8);
    }

    private static void wipeRefused() {
        C.sentence("MARKS of a RECORD are none: how many there were. BAD.");
        seeds(2);
        text(0, "abcdefgh");
        text(1, "b");
        for (int r : new int[] {-1, 2, MANY, FEW}) C.due("RECORD " + r, x.wipe(r), -2);
        C.due("nine", x.count(9), 9);
        C.due("CLASH", x.clash(0, 1), 1);
        C.due("eight", x.wipe(0), 8);
        C.due("none", x.wipe(0), 0);
        C.due("no CLASH", x.clash(0, 1), 0);
        C.due("one left", x.count(9), 1);
        seeds(0);
        C.due("no RECORD", x.wipe(0), -2);
    }

    private static void signAtSomePlace() {
        C.sentence("two RECORDS CLASH, if both have a sign at some place, known in both, and unlike");
        String[][] without = {{"", ""}, {"", "abcdefgh"}, {"a", "a"}, {"a", "?"}, {"?", "?"}, {"ab", "a"},
            {"????????", "abcdefgh"}, {"abcdefg", "abcdefgh"}, {"a?c?e?g?", "?b?d?f?h"}, {"z", "zz"}};
        for (String[] pair : without) {
            texts(pair);
            C.due(pair[0] + " " + pair[1], x.clash(0, 1), 0);
            C.due(pair[1] + " " + pair[0], x.clash(1, 0), 0);
        }
        for (int place = 0; place < 8; place++) {
            texts("????????".substring(0, place) + "a", "zzzzzzzz".substring(0, place) + "z");
            C.due("unlike at " + place, x.clash(0, 1), 1);
            C.due("unlike at " + place + ", turned", x.clash(1, 0), 1);
        }
        texts("abcdefgh");
        C.due("with itself", x.clash(0, 0), 0);
    }

    private static void clashRefused() {
        C.sentence("Whether two RECORDS CLASH: 1, 0. BAD.");
        texts("a", "b");
        for (int r : new int[] {-1, 2, MANY, FEW}) {
            C.due("the one " + r, x.clash(r, 0), -2);
            C.due("the other " + r, x.clash(0, r), -2);
            C.due("both " + r, x.clash(r, r), -2);
        }
        x.takeBack(0, 0);
        C.due("one that does not COUNT is a RECORD", x.clash(0, 1), 1);
    }

    private static void twelveAtMost() {
        C.sentence("those that COUNT (12 at most: FULL)");
        seeds(12);
        C.due("12", x.least(), 1);
        C.due("ones of 12", x.ones(11), 0);
        x.came(-1, 0, 1, 1);
        C.due("13", x.least(), -4);
        C.due("ones of 13", x.ones(0), -4);
        x.set(2, 0);
        C.due("12 as of then", x.least(), 1);
        x.set(2, 99);
        for (int i = 13; i < 24; i++) x.came(-1, 0, 1, 1);
        C.due("24", x.least(), -4);
        for (int r = 0; r < 12; r++) x.takeBack(r, 1);
        C.due("12 of 24", x.least(), 1);
        C.due("the last of 24", x.ones(23), 0);
    }

    private static void leastFull() {
        C.sentence("AT LEAST. FULL.");
        for (int n = 0; n <= 24; n++) {
            seeds(n);
            for (int r = 0; r < n; r++) x.type(r, 'a' + r);
            C.due("least of " + n + " that CLASH", x.least(), n <= 12 ? n : -4);
        }
    }

    private static void fewest() {
        C.sentence("AT LEAST: the fewest PERSONS");
        seeds(0);
        C.due("of none", x.least(), 0);
        seeds(1);
        C.due("of one", x.least(), 1);
        x.takeBack(0, 0);
        C.due("of none that COUNTS", x.least(), 0);
        texts("a", "a");
        C.due("of two alike", x.least(), 1);
        text(1, "b");
        C.due("of two that CLASH", x.least(), 2);
        x.takeBack(1, 0);
        C.due("one TAKEN BACK", x.least(), 1);
    }

    /** Where it is FULL nearly: all unlike, all alike, and two rings in which 3 are needed though 2 CLASH at a time. */
    private static void fewestOfTwelve() {
        C.sentence("no two that CLASH being one");
        String[] unlike = new String[12];
        for (int r = 0; r < 12; r++) unlike[r] = "???????" + (char) ('a' + r);
        texts(unlike);
        C.due("twelve unlike", x.least(), 12);
        ones(0, 1, 2, 3, 4, 5, 6, 7, 8, 9, 10, 11);
        String[] halves = new String[12];
        for (int r = 0; r < 12; r++) halves[r] = r < 6 ? "z" : "a";
        texts(halves);
        C.due("two halves", x.least(), 2);
        ones(0, 0, 0, 0, 0, 0, 1, 1, 1, 1, 1, 1);
        String[] rings = new String[12];
        for (int r = 0; r < 12; r++) {
            // The first and the last are free: neither makes the rings of five any less.
            StringBuilder signs = new StringBuilder("?????");
            if (r > 0 && r < 11) {
                int place = (r - 1) % 5;
                signs.setCharAt(place, 'a');
                signs.setCharAt((place + 1) % 5, 'b');
            }
            rings[r] = signs.toString();
        }
        texts(rings);
        C.due("rings", x.least(), 3);
        ones(0, 0, 1, 0, 1, 2, 0, 1, 0, 1, 2, 0);
    }

    private static void fromZero() {
        C.sentence("each time the least that leaves so few; from 0)");
        texts("z", "a", "z", "m");
        ones(0, 1, 0, 2);
        x.takeBack(0, 0);
        ones(-1, 0, 1, 2);
        x.takeBack(1, 0);
        ones(-1, -1, 0, 1);
    }

    private static void eachTimeTheLeast() {
        C.sentence("ONES: the least row of them (RECORD by RECORD, by numbers, the number of its PERSON");
        // 0 and 1 do not CLASH, but as one PERSON they would leave 2 and 3 none but two more.
        texts("a??", "??b", "ba?", "?ba");
        C.due("0 and 1", x.clash(0, 1), 0);
        C.due("two", x.least(), 2);
        ones(0, 1, 1, 0);
        // Either of 0 and 1 could be with 2: the least row has 0 with 1.
        texts("?", "a", "b");
        C.due("two", x.least(), 2);
        ones(0, 0, 1);
        texts("a?", "?a", "?b", "b?");
        C.due("two", x.least(), 2);
        ones(0, 0, 1, 1);
    }

    private static void doesNotCount() {
        C.sentence("NONE: it does not COUNT. BAD; FULL.");
        texts("a", "b");
        x.takeBack(0, 1);
        C.due("TAKEN BACK", x.ones(0), -1);
        C.due("the other", x.ones(1), 0);
        x.set(2, 0);
        C.due("as of before", x.ones(0), 0);
        C.due("the other then", x.ones(1), 1);
        seeds(1);
        x.came(0, 0, 1, 0);
        x.takeBack(0, 0);
        C.due("its BRINGER does not COUNT", x.ones(1), -1);
    }

    private static void onesRefused() {
        C.sentence("ONES: the number of the PERSON of a RECORD; NONE: it does not COUNT. BAD; FULL.");
        seeds(0);
        C.due("no RECORD", x.ones(0), -2);
        seeds(14);
        x.takeBack(0, 0);
        for (int r : new int[] {-1, 14, MANY, FEW}) C.due("BAD ahead of FULL", x.ones(r), -2);
        C.due("FULL", x.ones(1), -4);
        C.due("FULL, a refusal, ahead of NONE", x.ones(0), -4);
        x.takeBack(1, 0);
        for (int r : new int[] {-1, 14, MANY, FEW}) C.due("BAD", x.ones(r), -2);
        C.due("no more FULL", x.ones(2), 0);
        C.due("NONE", x.ones(0), -1);
    }
}
