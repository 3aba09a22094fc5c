/** Promises 18 to 25: sets, drawn, holdsAfter, mutinyAfter, runsAfter, worstSet, order, orderOdds. */
public final class LotsTest {
    private static final Check CHECK = new Check();
    /**
     * By sets of the first ten (NERVE behind it a 2, b 2, c 3, d 4; e runs, as two): ab e runs, anger 1; ac e b, 2;
     * bc e a, 3; ad e b c, 3; bd e a c, 2; cd e a b, 1.
     */
    private static final String TWO_TENS = "legion holds 2 lots 2 fear 1 mutiny 2;ten x;ten y;man a plain in x nerve 1;"
            + "man b plain in x nerve 1;man c plain in x nerve 2;man d plain in x nerve 3;man e officer in y nerve 0;"
            + "friend a b;friend a c;friend c d";

    public static void main(String[] args) {
        refusals();
        sets();
        after();
        orders();
        CHECK.end();
    }

    private static void refusals() {
        TenthBean none = new TenthBean();
        CHECK.refused("sets", none, none.sets(0), -1, 1);
        CHECK.refused("drawn", none, none.drawn(0, true), -1, 1);
        CHECK.refused("holdsAfter", none, none.holdsAfter(0, 0, true), -1, 1);
        CHECK.refused("mutinyAfter", none, none.mutinyAfter(0, true), -1, 1);
        CHECK.refused("runsAfter", none, none.runsAfter(0, 0, true), -1, 1);
        CHECK.refused("worstSet", none, none.worstSet(0, 0), -1, 1);
        CHECK.refused("order", none, none.order(0), -1, 1);
        CHECK.refused("orderOdds", none, none.orderOdds(0, true), -1, 1);
        TenthBean x = Check.legion(TWO_TENS);
        x.lot(1);
        CHECK.refused("sets of nobody", x, x.sets(1), -1, 6);
        CHECK.refused("sets", x, x.sets(2), -1, 1);
        CHECK.refused("sets", x, x.sets(-1), -1, 1);
        CHECK.refused("drawn who isn't there", x, x.drawn(4, false), -1, 1);
        CHECK.refused("drawn", x, x.drawn(5, false), -1, 1);
        CHECK.refused("drawn", x, x.drawn(-1, true), -1, 1);
        CHECK.refused("holdsAfter start", x, x.holdsAfter(0, 16, true), -1, 2);
        CHECK.refused("holdsAfter start ahead of nobody", x, x.holdsAfter(1, 16, true), -1, 2);
        CHECK.refused("holdsAfter ten ahead of start", x, x.holdsAfter(2, 16, true), -1, 1);
        CHECK.refused("holdsAfter nobody", x, x.holdsAfter(1, 1, true), -1, 6);
        CHECK.refused("mutinyAfter", x, x.mutinyAfter(3, true), -1, 1);
        CHECK.refused("mutinyAfter nobody", x, x.mutinyAfter(1, true), -1, 6);
        CHECK.refused("runsAfter", x, x.runsAfter(-1, 0, true), -1, 1);
        CHECK.refused("runsAfter start", x, x.runsAfter(0, -1, true), -1, 2);
        CHECK.refused("runsAfter nobody", x, x.runsAfter(1, 0, false), -1, 6);
        CHECK.refused("worstSet", x, x.worstSet(2, 0), -1, 1);
        CHECK.refused("worstSet start", x, x.worstSet(0, 32), -1, 2);
        CHECK.refused("worstSet nobody", x, x.worstSet(1, 0), -1, 6);
        CHECK.refused("order", x, x.order(16), -1, 2);
        CHECK.refused("orderOdds", x, x.orderOdds(-1, false), -1, 2);
    }

    private static void sets() {
        TenthBean x = Check.legion(TWO_TENS);
        CHECK.told("two of four", x, x.sets(0), 6);
        CHECK.told("one at least", x, x.sets(1), 1);
        CHECK.odds("drawn(0)", x.drawn(0, false), x.drawn(0, true), 1, 2);
        CHECK.odds("drawn(4)", x.drawn(4, false), x.drawn(4, true), 1, 1);
        StringBuilder eight = new StringBuilder("legion holds 0 lots 2 fear 0 mutiny 1;ten t");
        for (char c = 'a'; c < 'i'; c++) {
            eight.append(";man ").append(c).append(" plain in t nerve 0");
        }
        TenthBean y = Check.legion(eight.toString());
        CHECK.told("four of eight", y, y.sets(0), 70);
        TenthBean z = Check.legion(eight.toString().replace("lots 2", "lots 3"));
        CHECK.told("two of eight", z, z.sets(0), 28);
        CHECK.odds("drawn two of eight", z.drawn(7, false), z.drawn(7, true), 1, 4);
    }

    private static void after() {
        TenthBean x = Check.legion(TWO_TENS);
        CHECK.odds("holdsAfter", x.holdsAfter(0, 0, false), x.holdsAfter(0, 0, true), 1, 6);
        CHECK.odds("mutinyAfter", x.mutinyAfter(0, false), x.mutinyAfter(0, true), 2, 3);
        CHECK.odds("runsAfter", x.runsAfter(0, 0, false), x.runsAfter(0, 0, true), 7, 3);
        CHECK.told("worstSet: of like ones the least bits", x, x.worstSet(0, 0), 9);
        CHECK.odds("holdsAfter ten 1", x.holdsAfter(1, 0, false), x.holdsAfter(1, 0, true), 1, 1);
        CHECK.odds("holdsAfter ten 1 from a", x.holdsAfter(1, 1, false), x.holdsAfter(1, 1, true), 0, 1);
        CHECK.odds("mutinyAfter ten 1", x.mutinyAfter(1, false), x.mutinyAfter(1, true), 0, 1);
        CHECK.odds("runsAfter ten 1", x.runsAfter(1, 0, false), x.runsAfter(1, 0, true), 0, 1);
        CHECK.odds("runsAfter ten 1 from a, e is no more", x.runsAfter(1, 17, false), x.runsAfter(1, 17, true), 4, 1);
        CHECK.told("worstSet of one", x, x.worstSet(1, 0), 16);
        // from d: ab e d c? 4 >= 3: all 3; ac e d b: 3; bc e d a: 3; ad 3; bd 3; cd 3
        CHECK.odds("runsAfter from d", x.runsAfter(0, 8, false), x.runsAfter(0, 8, true), 3, 1);
        CHECK.told("worstSet from d", x, x.worstSet(0, 8), 3);
        CHECK.due("nothing happened", x.there(), 31);
        CHECK.due("nor drawn", x.ten(0, 2), 0);
    }

    private static void orders() {
        TenthBean x = Check.legion(TWO_TENS);
        CHECK.told("order: the second", x, x.order(0), 2);
        CHECK.odds("its odds", x.orderOdds(0, false), x.orderOdds(0, true), 1, 1);
        CHECK.told("order from e", x, x.order(16), 2);
        CHECK.told("order from a: the first alone is as good as both", x, x.order(1), 1);
        CHECK.odds("its odds", x.orderOdds(1, false), x.orderOdds(1, true), 1, 6);
        String twins = "legion holds 1 lots 2 fear 1 mutiny 30;ten x;ten y;man a plain in x nerve 0;man b plain in x nerve 0;"
                + "man c plain in y nerve 0;man d plain in y nerve 0";
        TenthBean both = Check.legion(twins);
        CHECK.told("both", both, both.order(0), 3);
        CHECK.odds("both", both.orderOdds(0, false), both.orderOdds(0, true), 1, 1);
        TenthBean one = Check.legion(twins.replace("fear 1", "fear 3"));
        CHECK.told("of like ones the fewest, the least bits", one, one.order(0), 1);
        TenthBean bad = Check.legion(twins.replace("holds 1", "holds 8"));
        CHECK.told("none is likelier than {}", bad, bad.order(0), 0);
        CHECK.odds("never", bad.orderOdds(0, false), bad.orderOdds(0, true), 0, 1);
        // the first two together (one of each stands) are as good as the third alone (two veterans stand)
        TenthBean third = Check.legion("legion holds 2 lots 6 fear 4 mutiny 30;ten x;ten y;ten z;man a plain in x nerve 0;"
                + "man b plain in x nerve 0;man c plain in y nerve 0;man d plain in y nerve 0;man e veteran in z nerve 0;"
                + "man f veteran in z nerve 0;man g veteran in z nerve 0");
        CHECK.told("fewest ahead of least bits", third, third.order(0), 4);
        CHECK.odds("surely", third.orderOdds(0, false), third.orderOdds(0, true), 1, 1);
        TenthBean full = Check.legion(Check.FULL);
        CHECK.told("none needed", full, full.order(0), 0);
        CHECK.told("order(17)", full, full.order(17), 1);
        CHECK.odds("order(17)", full.orderOdds(17, false), full.orderOdds(17, true), 1, 2);
    }
}
