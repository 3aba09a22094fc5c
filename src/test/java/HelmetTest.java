/** Promises 29 to 32: doubt, next, doubtIf, honest. */
public final class HelmetTest {
    private static final Check CHECK = new Check();
    private static final String HEAD = "legion holds 0 lots 2 fear 0 mutiny 1;ten t;man a plain in t nerve 0;"
            + "man b plain in t nerve 0;man c plain in t nerve 0;man d plain in t nerve 0";

    public static void main(String[] args) {
        refusals();
        halfShaken();
        sure();
        onlyOneLeft();
        impossible();
        large();
        CHECK.end();
    }

    private static void refusals() {
        TenthBean none = new TenthBean();
        CHECK.refused("doubt", none, none.doubt(true), -1, 1);
        CHECK.refused("next", none, none.next(0, true), -1, 1);
        CHECK.refused("doubtIf", none, none.doubtIf(0, true, true), -1, 1);
        CHECK.refused("honest", none, none.honest(false), -1, 1);
        TenthBean bare = Check.legion(HEAD);
        CHECK.refused("doubt, no helmet", bare, bare.doubt(true), -1, 6);
        CHECK.refused("next, no helmet", bare, bare.next(0, true), -1, 6);
        CHECK.refused("next, no man", bare, bare.next(4, true), -1, 1);
        CHECK.refused("doubtIf, no helmet", bare, bare.doubtIf(0, true, false), -1, 6);
        CHECK.refused("doubtIf, no man", bare, bare.doubtIf(-1, true, false), -1, 1);
        CHECK.refused("honest, no helmet", bare, bare.honest(true), -1, 6);
        TenthBean x = Check.legion(HEAD + ";helmet beans 2 black 1 shaken 1 for a;drew b white");
        CHECK.refused("next, he drew", x, x.next(1, true), -1, 5);
        CHECK.refused("doubtIf, he drew", x, x.doubtIf(1, true, true), -1, 5);
        CHECK.refused("next", x, x.next(4, true), -1, 1);
    }

    private static void doubt(String name, TenthBean x, long upper, long lower) {
        CHECK.odds(name + " doubt", x.doubt(false), x.doubt(true), upper, lower);
    }

    private static void next(String name, TenthBean x, int m, long upper, long lower) {
        CHECK.odds(name + " next(" + m + ")", x.next(m, false), x.next(m, true), upper, lower);
        CHECK.due(name + " next trouble", x.trouble(), 0);
    }

    private static void doubtIf(String name, TenthBean x, int m, boolean black, long upper, long lower) {
        CHECK.odds(name + " doubtIf(" + m + ", " + black + ")", x.doubtIf(m, black, false), x.doubtIf(m, black, true), upper, lower);
    }

    private static void honest(String name, TenthBean x, long upper, long lower) {
        CHECK.odds(name + " honest", x.honest(false), x.honest(true), upper, lower);
    }

    private static void halfShaken() {
        TenthBean x = Check.legion(HEAD + ";helmet beans 3 black 1 shaken 50 for b;drew a white");
        honest("half", x, 2, 3);
        doubt("half", x, 3, 5);
        next("half, the one told", x, 1, 4, 5);
        next("half, another", x, 2, 1, 5);
        doubtIf("half", x, 2, true, 0, 1);
        doubtIf("half", x, 2, false, 3, 4);
        doubtIf("half", x, 1, true, 3, 4);
        doubtIf("half", x, 1, false, 0, 1);
        TenthBean y = Check.legion(HEAD + ";helmet beans 4 black 2 shaken 50 for b;drew b black;drew a white");
        // when he has it, all draw as from an honest one: 1/2 * 2/3, and 1 * 2/3
        honest("had it", y, 1, 3);
        doubt("had it", y, 2, 3);
        next("had it", y, 2, 1, 2);
        x.lot(0);
        next("who is there now means nothing", x, 2, 1, 5);
    }

    private static void sure() {
        TenthBean x = Check.legion(HEAD + ";helmet beans 5 black 2 shaken 0 for a");
        doubt("never shaken", x, 0, 1);
        honest("nothing drawn", x, 1, 1);
        next("never shaken", x, 0, 2, 5);
        TenthBean y = Check.legion(HEAD + ";helmet beans 5 black 2 shaken 100 for a");
        doubt("surely shaken", y, 1, 1);
        next("surely shaken", y, 0, 1, 1);
        next("surely shaken, another", y, 1, 1, 4);
        TenthBean z = Check.legion(HEAD + ";helmet beans 5 black 2 shaken 30 for a;drew a white");
        doubt("he drew a white one", z, 0, 1);
        next("all white but", z, 1, 1, 2);
    }

    private static void onlyOneLeft() {
        TenthBean x = Check.legion(HEAD + ";helmet beans 1 black 1 shaken 50 for b");
        next("nobody else draws it", x, 0, 1, 2);
        next("he does", x, 1, 1, 1);
        doubtIf("another", x, 0, true, 0, 1);
        doubtIf("another, white", x, 0, false, 0, 1);
        doubtIf("he", x, 1, true, 1, 2);
        TenthBean y = Check.legion(HEAD + ";helmet beans 1 black 1 shaken 50 for b;drew b black");
        doubt("all drawn", y, 1, 2);
        next("no bean is left", y, 0, 0, 1);
        doubtIf("no bean is left", y, 0, true, 0, 1);
        doubtIf("no bean is left", y, 0, false, 0, 1);
    }

    private static void impossible() {
        TenthBean x = Check.legion(HEAD + ";helmet beans 3 black 1 shaken 100 for b;drew a black");
        doubt("can't be at all", x, 0, 1);
        next("can't be at all", x, 1, 0, 1);
        doubtIf("can't be at all", x, 2, false, 0, 1);
        honest("by an honest one", x, 1, 3);
        TenthBean y = Check.legion(HEAD + ";helmet beans 3 black 1 shaken 99 for b;drew a black");
        doubt("only by an honest one", y, 0, 1);
        doubtIf("only by an honest one", y, 2, false, 0, 1);
        next("no black one left", y, 1, 0, 1);
    }

    private static void large() {
        String text = HEAD + ";man e plain in t nerve 0;man f plain in t nerve 0;man g plain in t nerve 0;"
                + "helmet beans 12 black 6 shaken 37 for g;drew a black;drew b white;drew c black;drew d white;drew e black;drew f white";
        TenthBean x = Check.legion(text);
        // 6*6*5*5*4*4 of 12*11*10*9*8*7; shaken 5*6*4*5*3*4 of 11*10*9*8*7*6
        honest("six", x, 5, 231);
        // 37 * 7200/332640 = 37 * 5/231, 63 * 5/231
        doubt("six", x, 37, 100);
        // 37 * 1 + 63 * 3/6
        next("six", x, 6, 137, 200);
        doubtIf("six", x, 6, true, 74, 137);
    }
}
