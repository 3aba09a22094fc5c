/** Promises 33 to 38: gone, goneAt, goneOf, surelyGone, ask, askLeaves. */
public final class GoneTest {
    private static final Check CHECK = new Check();
    private static final String HEAD = "legion holds 0 lots 2 fear 0 mutiny 1;ten t;man a plain in t nerve 0;"
            + "man b plain in t nerve 0;man c plain in t nerve 0;man d plain in t nerve 0";

    public static void main(String[] args) {
        refusals();
        full();
        sure();
        edges();
        asks();
        CHECK.end();
    }

    private static void refusals() {
        TenthBean none = new TenthBean();
        refused("no LEGION", none, 1, 1);
        TenthBean bare = Check.legion(HEAD);
        refused("no gone told", bare, 6, 6);
        CHECK.refused("goneOf nobody, no gone told", bare, bare.goneOf(4), -1, 1);
        TenthBean x = Check.legion(Check.FULL);
        CHECK.refused("goneAt(4)", x, x.goneAt(4), -1, 1);
        CHECK.refused("goneAt(-1)", x, x.goneAt(-1), -1, 1);
        CHECK.refused("goneAt(max)", x, x.goneAt(Integer.MAX_VALUE), -1, 1);
        CHECK.refused("goneOf(6)", x, x.goneOf(6), -1, 1);
        CHECK.refused("goneOf(-1)", x, x.goneOf(-1), -1, 1);
    }

    private static void refused(String name, TenthBean x, int trouble, int ofMan) {
        CHECK.refused(name + " gone", x, x.gone(), -1, trouble);
        CHECK.refused(name + " goneAt", x, x.goneAt(0), -1, trouble);
        CHECK.refused(name + " goneOf", x, x.goneOf(0), -1, ofMan);
        CHECK.refused(name + " surelyGone", x, x.surelyGone(), -1, trouble);
        CHECK.refused(name + " ask", x, x.ask(), -1, trouble);
        CHECK.refused(name + " askLeaves", x, x.askLeaves(), -1, trouble);
    }

    private static void full() {
        TenthBean x = Check.legion(Check.FULL);
        CHECK.told("gone", x, x.gone(), 4);
        int[] sets = {17, 18, 33, 34};
        for (int i = 0; i < 4; i++) {
            CHECK.told("goneAt", x, x.goneAt(i), sets[i]);
        }
        int[] with = {2, 2, 0, 0, 2, 2};
        for (int m = 0; m < 6; m++) {
            CHECK.told("goneOf", x, x.goneOf(m), with[m]);
        }
        CHECK.told("surelyGone", x, x.surelyGone(), 0);
        CHECK.told("ask", x, x.ask(), 0);
        CHECK.told("askLeaves", x, x.askLeaves(), 2);
        x.lot(0);
        CHECK.told("an earlier lot: NOW means nothing", x, x.gone(), 4);
    }

    private static void sure() {
        TenthBean x = Check.legion(HEAD + ";gone 3;among a b 2;among a c 1");
        CHECK.told("one set", x, x.gone(), 1);
        CHECK.told("a b d", x, x.goneAt(0), 11);
        CHECK.told("all of it", x, x.surelyGone(), 11);
        CHECK.told("ask: the first", x, x.ask(), 0);
        CHECK.told("askLeaves", x, x.askLeaves(), 1);
        TenthBean y = Check.legion(HEAD + ";gone 3;among a b 2");
        CHECK.told("surely two", y, y.surelyGone(), 3);
        CHECK.told("ask one of whom it isn't known", y, y.ask(), 2);
        CHECK.told("one is left", y, y.askLeaves(), 1);
    }

    private static void edges() {
        TenthBean x = Check.legion(HEAD + ";gone 1;among a b 2");
        CHECK.told("no set", x, x.gone(), 0);
        CHECK.refused("goneAt(0)", x, x.goneAt(0), -1, 1);
        CHECK.told("goneOf", x, x.goneOf(0), 0);
        CHECK.told("surelyGone", x, x.surelyGone(), 0);
        CHECK.told("ask", x, x.ask(), -2);
        CHECK.told("askLeaves", x, x.askLeaves(), -2);
        TenthBean y = Check.legion("legion holds 0 lots 2 fear 0 mutiny 1;ten t;gone 0");
        CHECK.told("nobody: one set", y, y.gone(), 1);
        CHECK.told("nobody: it", y, y.goneAt(0), 0);
        CHECK.told("nobody: surely", y, y.surelyGone(), 0);
        CHECK.told("nobody: ask", y, y.ask(), -2);
        CHECK.told("nobody: askLeaves", y, y.askLeaves(), -2);
        TenthBean z = Check.legion(HEAD + ";gone 0");
        CHECK.told("nobody gone: one set", z, z.gone(), 1);
        TenthBean w = Check.legion(HEAD.replace(";man d plain in t nerve 0", ";gone 1;man d plain in t nerve 0"));
        CHECK.told("of all men, those told behind it too", w, w.gone(), 4);
    }

    private static void asks() {
        TenthBean x = Check.legion(HEAD + ";gone 1;among a b 0");
        CHECK.told("c or d", x, x.gone(), 2);
        CHECK.told("ask c", x, x.ask(), 2);
        TenthBean y = Check.legion(HEAD + ";gone 2");
        CHECK.told("six", y, y.gone(), 6);
        CHECK.told("ask the first", y, y.ask(), 0);
        CHECK.told("three left", y, y.askLeaves(), 3);
        TenthBean z = Check.legion(HEAD + ";gone 1");
        CHECK.told("not he: three", z, z.askLeaves(), 3);
        CHECK.told("in one each", z, z.goneOf(3), 1);
    }
}
