import java.util.function.ToLongFunction;

/** What the document says of refusals: each call's, one by one, on an object on which all is told. */
public final class BoundaryRefusalsTest {
    private static final Check C = new Check();
    private static final int FEW = Integer.MIN_VALUE;
    private static final long BAD = Check.BAD, NOT = Check.NOT;

    public static void main(String[] args) {
        inTheOrderTold();
        changeNothing();
        leastLongAndMore();
        C.end();
    }

    /** 24 RECORDS, of which 23 COUNT; SHEETS of each FORM, the last one LOST; the latest FINDING is SIZE. */
    private static ThroughOthers made() {
        ThroughOthers x = new ThroughOthers();
        x.persons(7);
        for (int p = 0; p < 5; p++) x.tie(p, p + 1, true);
        x.kind(1, 1);
        x.set(0, 2);
        x.set(1, 5);
        x.set(2, 90);
        x.set(3, 1);
        for (int r = 0; r < 24; r++) x.came(r < 2 ? -1 : (r - 2) / 3, r % 2, r % 5 == 0 ? -1 : r % 20 + 1, r);
        x.takeBack(20, 30);
        for (char sign : "abcdefgh".toCharArray()) x.type(0, sign);
        x.type(1, 'b');
        for (int s = 0; s < 3; s++) {
            x.sheet(s, s, 4);
            for (int i = 0; i < 4; i++) x.lay(s, s, i, 10 * s + i);
        }
        x.sheet(3, 0, -1);
        return x;
    }

    /** All that later calls can tell, count(8) left out. It changes the object. */
    private static String told(ThroughOthers x) {
        StringBuilder all = new StringBuilder();
        for (int what = 0; what < 10; what++) if (what != 8) all.append(x.count(what)).append(' ');
        all.append("net");
        for (int a = 0; a < x.count(0); a++) {
            all.append(' ').append(x.about(a, 1));
            for (int b = 0; b < a; b++) all.append(x.far(a, b) == 1 ? 1 : 0);
        }
        all.append(" digest ").append(x.digest()).append(" sheets");
        for (int s = 0; s < 4; s++) {
            int form = Math.min(s, 2);
            for (int i = 0; i < 5; i++) all.append(' ').append(x.get(s, form, i));
            all.append(' ').append(x.lose(s));
        }
        all.append(" settings ").append(x.set(2, 99)).append(' ').append(x.set(3, 0)).append(" records");
        for (int r = 0; r < x.count(3); r++) for (int what = 0; what < 8; what++) all.append(' ').append(x.record(r, what));
        all.append(" days");
        for (int day = 28; day < 33; day++) all.append(' ').append(x.takeBack(0, day));
        all.append(" marks ").append(x.clash(0, 1)).append(x.clash(0, 2));
        for (int r = 0; r < x.count(3); r++) all.append(x.wipe(r));
        return all.toString();
    }

    private static void refused(String call, ToLongFunction<ThroughOthers> act, long due) {
        ThroughOthers x = made();
        C.due(call, act.applyAsLong(x), due);
        boolean finding = due <= -11 && due >= -15;
        C.due(call + ": count(8)", x.count(8), finding ? -10 - due : 5);
        C.same(call, told(x), told(made()));
    }

    private static void inTheOrderTold() {
        C.sentence("Refusals, the first that fits, in the order told at each act: BAD -2 (a number not as told, no such thing), NULL, NOT -3 (as told), FULL -4, other FINDINGS.");
        refused("read: BAD, NULL", x -> x.read(3, 7), -2);
        refused("lasting: BAD, what", x -> x.lasting(0, 2), BAD);
        refused("came: BAD, FULL, NOT", x -> x.came(0, 0, 0, 40), -2);
        refused("came: FULL, NOT", x -> x.came(0, 0, 1, 40), -4);
        refused("takeBack: BAD, NOT", x -> x.takeBack(20, 29), -2);
        refused("alike: BAD, FULL", x -> x.alike(2), -2);
        refused("type: BAD, NOT, FULL", x -> x.type(0, 256), -2);
        refused("type: NOT, FULL", x -> x.type(0, 'A'), -3);
        refused("ones: BAD, FULL", x -> x.ones(24), -2);
        refused("sheet: BAD, SIZE", x -> x.sheet(0, 3, -1), -2);
        refused("lay: BAD, NULL", x -> x.lay(3, 3, 9, 1), -2);
        refused("lay: NULL, INDEX", x -> x.lay(3, 1, 9, 1), -11);
        refused("lay: CAST, INDEX", x -> x.lay(0, 1, 9, 1), -13);
        refused("copy: BAD, NULL", x -> x.copy(3, 9, 4, 9, 9), -2);
        refused("copy: NULL, INDEX", x -> x.copy(3, 9, 0, 9, 9), -11);
        refused("copy: STORE, INDEX", x -> x.copy(0, 9, 1, 9, 9), -14);
        refused("write: BAD, NULL", x -> x.write(7, 3), -2);
    }

    private static void changeNothing() {
        C.sentence("They change nothing (FINDINGS but count() 8).");
        refused("persons 0", x -> x.persons(0), -2);
        refused("persons 10", x -> x.persons(10), -2);
        refused("tie with itself", x -> x.tie(6, 6, true), -2);
        refused("tie to none", x -> x.tie(6, 7, true), -2);
        refused("untie from none", x -> x.tie(-1, 0, false), -2);
        refused("kind of none", x -> x.kind(7, 1), -2);
        refused("kind 2", x -> x.kind(0, 2), -2);
        refused("kind -1", x -> x.kind(0, -1), -2);
        refused("read of none", x -> x.read(0, 7), -2);
        refused("read no SHEET", x -> x.read(4, 0), -2);
        refused("read NULL", x -> x.read(3, 0), -11);
        refused("about", x -> x.about(7, 0), -2);
        refused("far", x -> x.far(0, 7), -2);
        refused("set START", x -> x.set(0, 7), -5);
        refused("set LENGTH", x -> x.set(1, 8), -5);
        refused("set AS OF", x -> x.set(2, 100), -5);
        refused("set FROM", x -> x.set(3, 10), -5);
        refused("set 4", x -> x.set(4, 1), -5);
        refused("set -1", x -> x.set(-1, 1), -5);
        refused("came by none", x -> x.came(24, 0, 1, 40), -2);
        refused("came too early", x -> x.came(-1, 0, 1, 29), -2);
        refused("came too late", x -> x.came(-1, 0, 1, 100), -2);
        refused("came FULL", x -> x.came(-1, 0, 1, 40), -4);
        refused("takeBack none", x -> x.takeBack(24, 40), -2);
        refused("takeBack too early", x -> x.takeBack(1, 29), -2);
        refused("takeBack too late", x -> x.takeBack(1, 100), -2);
        refused("takeBack NOT", x -> x.takeBack(20, 40), -3);
        refused("record", x -> x.record(24, 0), -5);
        refused("record what", x -> x.record(0, 8), -5);
        refused("alike", x -> x.alike(-1), -2);
        refused("alike FULL", x -> x.alike(1), -4);
        refused("wave", x -> x.wave(24), -2);
        refused("type of none", x -> x.type(24, 'a'), -2);
        refused("type NOT", x -> x.type(1, '@'), -3);
        refused("type FULL", x -> x.type(0, 'a'), -4);
        refused("wipe", x -> x.wipe(24), -2);
        refused("clash", x -> x.clash(0, 24), -2);
        refused("least FULL", x -> x.least(), -4);
        refused("ones", x -> x.ones(-1), -2);
        refused("ones FULL", x -> x.ones(0), -4);
        refused("reach", x -> x.reach(9), -2);
        refused("parts", x -> x.parts(2), -2);
        refused("sheet none", x -> x.sheet(4, 0, 1), -2);
        refused("sheet FORM", x -> x.sheet(0, 3, 1), -2);
        refused("sheet above", x -> x.sheet(0, 0, 61), -2);
        refused("sheet SIZE", x -> x.sheet(0, 0, -1), -15);
        refused("lose none", x -> x.lose(4), -2);
        refused("lose NULL", x -> x.lose(3), -11);
        refused("lay none", x -> x.lay(4, 0, 0, 7), -2);
        refused("lay NULL", x -> x.lay(3, 0, 0, 7), -11);
        refused("lay CAST", x -> x.lay(2, 0, 0, 7), -13);
        refused("lay INDEX", x -> x.lay(2, 2, 4, 7), -12);
        refused("copy none", x -> x.copy(0, 0, 4, 0, 1), -2);
        refused("copy NULL", x -> x.copy(0, 0, 3, 0, 1), -11);
        refused("copy STORE", x -> x.copy(0, 0, 1, 0, 1), -14);
        refused("copy INDEX", x -> x.copy(0, 1, 0, 0, 4), -12);
        refused("copy INDEX below", x -> x.copy(0, 0, 0, 0, -1), -12);
        refused("write of none", x -> x.write(7, 0), -2);
        refused("write no SHEET", x -> x.write(0, 4), -2);
        refused("write NULL", x -> x.write(0, 3), -11);
        refused("count", x -> x.count(10), -2);
        refused("get BAD", x -> x.get(4, 0, 0), FEW);
        refused("get FORM", x -> x.get(0, 3, 0), FEW);
    }

    private static void leastLongAndMore() {
        C.sentence("Where the answer is a long, a refusal -x is the least long and x more.");
        refused("found", x -> x.found(7, 0), BAD);
        refused("both", x -> x.both(0, 7, 0), BAD);
        refused("size", x -> x.size(8, 0), BAD);
        refused("kinds", x -> x.kinds(8, 0), BAD);
        refused("within", x -> x.within(101, 0), BAD);
        refused("at", x -> x.at(6, 0, 0), BAD);
        refused("at of none", x -> x.at(0, 7, 0), BAD);
        refused("lasting", x -> x.lasting(7, 0), BAD);
        refused("strayed", x -> x.strayed(6, 0), BAD);
        refused("share", x -> x.share(3, 0), BAD);
        refused("bounds", x -> x.bounds(6, 0, 0), BAD);
        refused("leaving", x -> x.leaving(2, 0), BAD);
        refused("forgot", x -> x.forgot(7, 0), BAD);
        refused("narrow", x -> x.narrow(3), BAD);
        ThroughOthers none = new ThroughOthers();
        C.due("lasting NOT", none.lasting(0, 0), NOT);
        C.due("strayed NOT", none.strayed(0, 0), NOT);
        C.due("share NOT", none.share(0, 0), NOT);
        C.due("bounds NOT", none.bounds(0, 0, 0), NOT);
        C.due("leaving NOT", none.leaving(0, 0), NOT);
        C.due("forgot NOT", none.forgot(0, 0), NOT);
        C.due("narrow NOT", none.narrow(0), NOT);
        C.due("narrow's set is no refusal", none.narrow(2), -1);
    }
}
