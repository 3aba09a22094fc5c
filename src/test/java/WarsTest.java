/** Promises 42 to 44: wars, warsLeft, warsOf. */
public final class WarsTest {
    private static final Check CHECK = new Check();

    public static void main(String[] args) {
        refusals();
        byHand();
        fromNow();
        nobody();
        CHECK.end();
    }

    private static void refusals() {
        TenthBean none = new TenthBean();
        CHECK.refused("wars", none, none.wars(0, 0), -1, 1);
        CHECK.refused("wars, bad too", none, none.wars(-1, 0), -1, 1);
        CHECK.refused("warsLeft", none, none.warsLeft(0, 0), -1, 1);
        CHECK.refused("warsOf", none, none.warsOf(0, 0, 0), -1, 1);
        TenthBean x = Check.legion(Check.FULL);
        int[][] bad = {{-1, 0}, {65537, 0}, {0, -1}, {0, 61}, {Integer.MIN_VALUE, Integer.MAX_VALUE}};
        for (int[] b : bad) {
            CHECK.refused("wars", x, x.wars(b[0], b[1]), -1, 2);
            CHECK.refused("warsLeft", x, x.warsLeft(b[0], b[1]), -1, 2);
            CHECK.refused("warsOf", x, x.warsOf(0, b[0], b[1]), -1, 2);
            CHECK.refused("warsOf, no man ahead of it", x, x.warsOf(6, b[0], b[1]), -1, 1);
        }
        CHECK.refused("warsOf(-1)", x, x.warsOf(-1, 0, 0), -1, 1);
        CHECK.told("wars(65536, 60)", x, x.wars(65536, 60) >= 0 ? 1 : 0, 1);
    }

    /**
     * Draws from SEED 0: 74 cal; 5624 fay starts, all run; 28652 dan; 51790 eli starts alone, three stand; 17641 ben,
     * whose going makes MUTINY; 12409 eli starts, two stand; then only STARTS are drawn: 13231 eli.
     */
    private static void byHand() {
        TenthBean x = Check.legion(Check.FULL);
        x.seed(4711);
        int[] held = {0, 0, 1, 1, 1};
        int[] left = {63, 59, 51, 49, 49};
        for (int n = 0; n <= 4; n++) {
            CHECK.told("wars(0, " + n + ")", x, x.wars(0, n), held[n]);
            CHECK.told("warsLeft(0, " + n + ")", x, x.warsLeft(0, n), left[n]);
        }
        int[] drawnIn = {0, 3, 1, 2, 0, 0};
        for (int m = 0; m < 6; m++) {
            CHECK.told("warsOf(" + m + ", 0, 4)", x, x.warsOf(m, 0, 4), drawnIn[m]);
        }
        CHECK.told("not yet", x, x.warsOf(1, 0, 2), 0);
        CHECK.told("MUTINY stays, however long", x, x.warsLeft(0, 60), 49);
        CHECK.due("nothing happened", x.there(), 63);
        CHECK.due("SEED stays", x.size(9), 4711);
        CHECK.due("no ACT", x.size(10), 0);
    }

    private static void fromNow() {
        TenthBean x = Check.legion(Check.FULL);
        x.lot(0);
        CHECK.told("he is gone already", x, x.warsOf(2, 74, 9), 0);
        // 75 * 74 + 74 is 5624, mod 3 (abe ben fay) is 2: fay
        CHECK.told("fay", x, x.warsOf(5, 74, 1), 1);
        CHECK.told("from NOW", x, x.warsLeft(74, 1), 27);
        TenthBean two = Check.legion("legion holds 1 lots 2 fear 0 mutiny 30;ten x;ten y;man a plain in x nerve 7;man b plain in y nerve 7");
        CHECK.told("war 0: a, b starts", two, two.wars(0, 1), 0);
        CHECK.told("a", two, two.warsOf(0, 0, 2), 1);
        CHECK.told("war 1: b", two, two.warsOf(1, 0, 2), 2);
        CHECK.told("all gone", two, two.warsLeft(0, 2), 0);
    }

    private static void nobody() {
        TenthBean x = Check.legion("legion holds 0 lots 2 fear 0 mutiny 1;ten t");
        CHECK.told("0 of nobody hold", x, x.wars(5, 60), 60);
        CHECK.told("nobody is left", x, x.warsLeft(5, 60), 0);
        TenthBean y = Check.legion("legion holds 1 lots 2 fear 0 mutiny 1;ten t");
        CHECK.told("1 of nobody doesn't", y, y.wars(5, 60), 0);
        // a ten without men: nothing is drawn of it, but a START is: 74 mod 2 is a, 5624 mod 2 is a
        TenthBean z = Check.legion("legion holds 1 lots 2 fear 0 mutiny 30;ten x;ten y;man a plain in y nerve 7;man b plain in y nerve 7");
        CHECK.told("no LOT in war 0", z, z.warsLeft(0, 1), 3);
        CHECK.told("it holds", z, z.wars(0, 1), 1);
        CHECK.told("a in war 1", z, z.warsOf(0, 0, 2), 2);
        CHECK.told("b starts, none stands", z, z.wars(0, 2), 1);
    }
}
