/** Promises 39 to 41: line, rests, rest. */
public final class LineTest {
    private static final Check CHECK = new Check();

    public static void main(String[] args) {
        TenthBean none = new TenthBean();
        CHECK.refused("line", none, none.line(0, true, true, true), -100, 1);
        CHECK.refused("line, bad too", none, none.line(10, true, true, true), -100, 1);
        CHECK.refused("rests", none, none.rests(0), -1, 1);
        CHECK.refused("rest", none, none.rest(0), -1, 1);
        TenthBean x = Check.legion(Check.FULL);
        for (int dread : new int[] {-1, 10, Integer.MIN_VALUE, Integer.MAX_VALUE}) {
            CHECK.refused("line", x, x.line(dread, false, false, false), -100, 2);
            CHECK.refused("rests", x, x.rests(dread), -1, 2);
            CHECK.refused("rest", x, x.rest(dread), -1, 2);
        }
        for (int dread = 0; dread <= 9; dread++) {
            CHECK.told("both stand", x, x.line(dread, false, false, false), 5);
            CHECK.told("both stand, other", x, x.line(dread, false, false, true), 5);
            CHECK.told("other runs", x, x.line(dread, false, true, false), -4);
            CHECK.told("other runs, other", x, x.line(dread, false, true, true), 3 - dread);
            CHECK.told("one runs", x, x.line(dread, true, false, false), 3 - dread);
            CHECK.told("one runs, other", x, x.line(dread, true, false, true), -4);
            CHECK.told("both run", x, x.line(dread, true, true, false), 3 - dread);
            CHECK.told("both run, other", x, x.line(dread, true, true, true), 3 - dread);
            CHECK.told("rests by " + dread, x, x.rests(dread), dread <= 7 ? 2 : 1);
            CHECK.told("rest by " + dread, x, x.rest(dread), 0);
        }
        CHECK.end();
    }
}
