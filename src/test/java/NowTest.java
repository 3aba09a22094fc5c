/** Promises 6 to 10: man, ten, there, anger, mutiny. */
public final class NowTest {
    private static final Check CHECK = new Check();

    public static void main(String[] args) {
        noLegion();
        asTold();
        behindLots();
        kinds();
        moved();
        mutinies();
        CHECK.end();
    }

    private static void noLegion() {
        TenthBean x = new TenthBean();
        CHECK.refused("man", x, x.man(0, 0), -1, 1);
        CHECK.refused("ten", x, x.ten(0, 0), -1, 1);
        CHECK.refused("there", x, x.there(), -1, 1);
        CHECK.refused("anger", x, x.anger(), -1, 1);
        CHECK.refused("mutiny", x, x.mutiny(), -1, 1);
    }

    private static void row(String name, TenthBean x, int m, int... want) {
        for (int what = 0; what < want.length; what++) {
            CHECK.told(name + ": man(" + m + ", " + what + ")", x, x.man(m, what), want[what]);
        }
    }

    private static void tenRow(String name, TenthBean x, int t, int... want) {
        for (int what = 0; what < want.length; what++) {
            CHECK.told(name + ": ten(" + t + ", " + what + ")", x, x.ten(t, what), want[what]);
        }
    }

    private static void asTold() {
        TenthBean x = Check.legion(Check.FULL);
        row("told", x, 0, 0, 0, 1, 1, 10, 0, 1, 0);
        row("told", x, 1, 1, 0, 2, 2, 1, 0, 1, 0);
        row("told", x, 2, 2, 0, 2, 2, 16, 0, 1, 0);
        row("told", x, 3, 3, 1, 3, 3, 1, 0, 1, 0);
        row("told", x, 5, 0, 0, 7, 7, 0, 0, 1, 0);
        tenRow("told", x, 0, 39, 1, 0);
        tenRow("told", x, 1, 24, 1, 0);
        CHECK.told("there", x, x.there(), 63);
        CHECK.told("anger", x, x.anger(), 0);
        CHECK.told("mutiny", x, x.mutiny(), 0);
        CHECK.refused("man(6)", x, x.man(6, 0), -1, 1);
        CHECK.refused("man(-1)", x, x.man(-1, 0), -1, 1);
        CHECK.refused("man what 8", x, x.man(0, 8), -1, 1);
        CHECK.refused("man what -1", x, x.man(0, -1), -1, 1);
        CHECK.refused("man(min)", x, x.man(Integer.MIN_VALUE, Integer.MAX_VALUE), -1, 1);
        CHECK.refused("ten(2)", x, x.ten(2, 0), -1, 1);
        CHECK.refused("ten(-1)", x, x.ten(-1, 0), -1, 1);
        CHECK.refused("ten what 3", x, x.ten(0, 3), -1, 1);
        CHECK.refused("ten what -1", x, x.ten(0, -1), -1, 1);
    }

    /** SEED from 0: 74, 5624, 28652, 51790, 17641, 12409. */
    private static void behindLots() {
        TenthBean x = Check.legion(Check.FULL);
        x.braces(3, true);
        CHECK.told("lot", x, x.lot(0), 4);
        row("cal went", x, 0, 0, 0, 1, 2, 10, 0, 1, 0);
        row("cal went", x, 1, 1, 0, 2, 4, 1, 0, 1, 0);
        row("cal went", x, 2, 2, 0, 2, 2, 16, 0, 0, 0);
        row("cal went", x, 3, 3, 1, 3, 3, 1, 0, 1, 1);
        row("cal went", x, 4, 0, 1, 1, 1, 4, 1, 1, 0);
        tenRow("cal went", x, 0, 35, 1, 1);
        CHECK.due("cal went: anger", x.anger(), 1);
        CHECK.told("lot", x, x.lot(1), 8);
        row("dan went, as he was", x, 3, 3, 1, 3, 3, 1, 0, 0, 1);
        row("dan went", x, 0, 0, 0, 1, 2, 10, 1, 1, 0);
        row("dan went", x, 4, 0, 1, 1, 2, 4, 1, 1, 0);
        CHECK.told("lot", x, x.lot(0), 32);
        row("fay went, as he was", x, 5, 0, 0, 7, 8, 0, 0, 0, 0);
        row("fay went", x, 1, 1, 0, 2, 6, 1, 0, 1, 0);
        CHECK.due("there", x.there(), 19);
        CHECK.told("lot", x, x.lot(1), 16);
        row("eli went, as angry as he was", x, 4, 0, 1, 1, 2, 4, 1, 0, 0);
        CHECK.due("anger of those there alone", x.anger(), 1);
        tenRow("nobody there", x, 1, 0, 0, 2);
    }

    private static void kinds() {
        TenthBean x = Check.legion("legion holds 0 lots 6 fear 4 mutiny 30;ten t;man a plain in t nerve 0;"
                + "man b veteran in t nerve 1;man c coward in t nerve 2;man d officer in t nerve 3;man e plain in t nerve 7");
        // 74 mod 5
        CHECK.told("lot", x, x.lot(0), 16);
        CHECK.due("plain", x.man(0, 3), 4);
        CHECK.due("veteran", x.man(1, 3), 9);
        CHECK.due("coward", x.man(2, 3), 2);
        CHECK.due("officer", x.man(3, 3), 7);
        CHECK.due("as told", x.man(1, 2), 1);
        TenthBean y = Check.legion("legion holds 0 lots 2 fear 0 mutiny 30;ten s;ten t;man a plain in t nerve 5;"
                + "man b plain in t nerve 1;man c plain in t nerve 1;man d plain in t nerve 1;man e plain in t nerve 1");
        tenRow("five, one in two", y, 1, 31, 2, 0);
        tenRow("nobody", y, 0, 0, 0, 0);
    }

    private static void moved() {
        TenthBean x = Check.legion(Check.FULL);
        x.lot(0);
        CHECK.due("feared", x.man(1, 3), 4);
        CHECK.due("move", x.move(1, 1), true);
        CHECK.due("his ten", x.man(1, 1), 1);
        CHECK.due("no LOT there yet", x.man(1, 3), 2);
        tenRow("left", x, 0, 33, 1, 1);
        tenRow("came", x, 1, 26, 1, 0);
        // 5624 mod 3 is 2: eli
        CHECK.told("lot", x, x.lot(1), 16);
        CHECK.due("feared anew", x.man(1, 3), 4);
        CHECK.due("back", x.move(1, 0), true);
        CHECK.due("as if none had been drawn there", x.man(1, 3), 2);
        CHECK.due("the others fear as they did", x.man(0, 3), 2);
    }

    private static void mutinies() {
        String text = "legion holds 0 lots 2 fear 0 mutiny 2;ten t;man a plain in t nerve 0;man b plain in t nerve 0;"
                + "man c plain in t nerve 0;friend a b;friend a c;friend b c";
        TenthBean x = Check.legion(text);
        CHECK.due("c", x.lot(0), 4);
        CHECK.due("his friends", x.man(0, 4), 6);
        CHECK.due("anger of one", x.man(0, 5), 1);
        CHECK.due("anger of who went", x.man(2, 5), 0);
        CHECK.due("anger of all", x.anger(), 2);
        CHECK.due("as much as told", x.mutiny(), 1);
        TenthBean y = Check.legion(text.replace("mutiny 2", "mutiny 3"));
        y.lot(0);
        CHECK.due("less than told", y.mutiny(), 0);
        // two friends who go at once aren't angry about one another
        TenthBean z = Check.legion("legion holds 0 lots 2 fear 0 mutiny 9;ten t;man a plain in t nerve 0;man b plain in t nerve 0;"
                + "man c plain in t nerve 0;man d plain in t nerve 0;friend a c;friend b c;friend c d");
        CHECK.due("74 mod 4, 5624 mod 3", z.lot(0), 12);
        CHECK.due("d as he was", z.man(3, 5), 0);
        CHECK.due("c as he was", z.man(2, 5), 0);
        CHECK.due("a and b", z.anger(), 2);
    }
}
