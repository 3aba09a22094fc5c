/** Promises 11 to 17: runs, holds, worst, breaks, brace, toHearten, fearFor. */
public final class RunTest {
    private static final Check CHECK = new Check();

    public static void main(String[] args) {
        refusals();
        running();
        single();
        bracing();
        heartening();
        fearing();
        nobody();
        CHECK.end();
    }

    private static void refusals() {
        TenthBean none = new TenthBean();
        CHECK.refused("runs", none, none.runs(0), -1, 1);
        CHECK.refused("runs, bad too", none, none.runs(-1), -1, 1);
        CHECK.refused("holds", none, none.holds(0), -1, 1);
        CHECK.refused("worst", none, none.worst(), -1, 1);
        CHECK.refused("breaks", none, none.breaks(), -1, 1);
        CHECK.refused("brace", none, none.brace(0), -1, 1);
        CHECK.refused("toHearten", none, none.toHearten(0), -1, 1);
        CHECK.refused("fearFor", none, none.fearFor(0), -1, 1);
        TenthBean x = Check.legion(Check.FULL);
        x.lot(0);
        for (int start : new int[] {4, 64, -1, 1 << 31, 5}) {
            CHECK.refused("runs", x, x.runs(start), -1, 2);
            CHECK.refused("holds", x, x.holds(start), -1, 2);
            CHECK.refused("brace", x, x.brace(start), -1, 2);
            CHECK.refused("toHearten", x, x.toHearten(start), -1, 2);
            CHECK.refused("fearFor", x, x.fearFor(start), -1, 2);
        }
    }

    private static void running() {
        TenthBean x = Check.legion(Check.FULL);
        CHECK.told("nobody", x, x.runs(0), 0);
        CHECK.told("holds", x, x.holds(0), 1);
        CHECK.told("abe, eli, ben and cal, dan", x, x.runs(1), 31);
        CHECK.told("holds", x, x.holds(1), 0);
        CHECK.told("an officer as two", x, x.runs(8), 31);
        CHECK.told("fay", x, x.runs(32), 63);
        x.braces(4, true);
        CHECK.told("eli braced", x, x.runs(1), 1);
        CHECK.told("who starts runs, braced or not", x, x.runs(16), 31);
        CHECK.told("dan starts", x, x.runs(8), 15);
        CHECK.told("two stand, three are told", x, x.holds(8), 0);
        x.lot(0);
        CHECK.told("NERVE with FEAR, no more cal", x, x.runs(1), 1);
        CHECK.told("abe and dan by two", x, x.runs(33), 33);
        CHECK.told("as many as told", x, x.holds(33), 1);
        TenthBean y = Check.legion("legion holds 1 lots 2 fear 0 mutiny 1;ten t;man a plain in t nerve 0;man b plain in t nerve 1;"
                + "man c officer in t nerve 2;man d plain in t nerve 5");
        CHECK.told("0 is no more than nobody", y, y.runs(0), 7);
        CHECK.told("holds by one", y, y.holds(0), 1);
        CHECK.told("all", y, y.runs(8), 15);
        CHECK.told("none stands", y, y.holds(8), 0);
    }

    private static void single() {
        TenthBean x = Check.legion(Check.FULL);
        CHECK.told("worst", x, x.worst(), 5);
        CHECK.told("breaks", x, x.breaks(), 1);
        x.braces(5, true);
        CHECK.told("worst: fay starts, though braced", x, x.worst(), 5);
        x.lot(0);
        x.lot(1);
        // abe 2, ben 4, eli 2, fay 8, braced
        CHECK.told("like ones: the first", x, x.worst(), 0);
        CHECK.told("two break it: the least bits of two", x, x.breaks(), 3);
        TenthBean y = Check.legion("legion holds 2 lots 2 fear 0 mutiny 1;ten t;man a plain in t nerve 0;man b plain in t nerve 1");
        CHECK.told("by nobody", y, y.breaks(), 0);
        TenthBean z = Check.legion("legion holds 0 lots 2 fear 0 mutiny 1;ten t;man a plain in t nerve 0;man b plain in t nerve 1");
        CHECK.told("by none", z, z.breaks(), -2);
        TenthBean w = Check.legion("legion holds 2 lots 2 fear 0 mutiny 1;ten t;man a plain in t nerve 7;man b plain in t nerve 7;"
                + "man c plain in t nerve 1;man d plain in t nerve 7");
        CHECK.told("two: c runs too", w, w.breaks(), 3);
        CHECK.told("worst of these", w, w.worst(), 0);
        TenthBean v = Check.legion("legion holds 3 lots 2 fear 0 mutiny 1;ten t;man a plain in t nerve 7;man b plain in t nerve 7;"
                + "man c plain in t nerve 7;man d officer in t nerve 7;man e plain in t nerve 2");
        CHECK.told("the pair of least bits, for no one alone does it", v, v.breaks(), 3);
        TenthBean u = Check.legion("legion holds 4 lots 2 fear 0 mutiny 1;ten t;man a plain in t nerve 7;man b plain in t nerve 7;"
                + "man c plain in t nerve 7;man d officer in t nerve 7;man e plain in t nerve 2");
        CHECK.told("the officer alone ahead of a pair of less bits", u, u.breaks(), 8);
        CHECK.told("most run by him", u, u.worst(), 3);
    }

    private static void bracing() {
        TenthBean x = Check.legion(Check.FULL);
        CHECK.told("eli", x, x.brace(1), 16);
        CHECK.told("none needed", x, x.brace(0), 0);
        CHECK.told("it can't be", x, x.brace(15), -2);
        CHECK.told("dan and eli", x, x.brace(7), 24);
        x.braces(4, true);
        CHECK.told("braced already", x, x.brace(1), 0);
        CHECK.told("more", x, x.brace(7), 8);
        TenthBean y = Check.legion("legion holds 1 lots 2 fear 0 mutiny 1;ten t;man a plain in t nerve 0;man b plain in t nerve 0");
        CHECK.told("of like ones the least bits", y, y.brace(0), 1);
        CHECK.told("not who is in the START", y, y.brace(1), 2);
    }

    private static void heartening() {
        TenthBean x = Check.legion(Check.FULL);
        CHECK.told("eli stays, and all", x, x.toHearten(1), 4);
        CHECK.told("nobody makes it fewer", x, x.toHearten(0), -2);
        CHECK.told("dan starts: who is heartened runs behind the others", x, x.toHearten(8), -2);
        TenthBean y = Check.legion("legion holds 1 lots 2 fear 0 mutiny 1;ten t;man a plain in t nerve 1;man b plain in t nerve 1;"
                + "man c plain in t nerve 1");
        CHECK.told("no one less", y, y.toHearten(1), -2);
        TenthBean z = Check.legion("legion holds 1 lots 2 fear 0 mutiny 1;ten t;man a plain in t nerve 3;man b plain in t nerve 2;"
                + "man c plain in t nerve 1;man d plain in t nerve 7");
        CHECK.told("c, by whom fewest run, ahead of b and a", z, z.toHearten(8), 2);
        CHECK.told("c runs: b", z, z.toHearten(12), 1);
        CHECK.told("b and c run: a", z, z.toHearten(14), 0);
        z.braces(1, true);
        CHECK.told("b braced", z, z.toHearten(8), 2);
        CHECK.told("b braced, c runs", z, z.toHearten(12), -2);
    }

    private static void fearing() {
        TenthBean x = Check.legion(Check.FULL);
        CHECK.told("no LOT yet: by none", x, x.fearFor(1), -2);
        CHECK.told("it holds", x, x.fearFor(0), 0);
        TenthBean y = Check.legion("legion holds 2 lots 6 fear 0 mutiny 9;ten t;man a plain in t nerve 0;man b plain in t nerve 0;"
                + "man c veteran in t nerve 0;man d plain in t nerve 0");
        // 74 mod 4: c
        CHECK.due("lot", y.lot(0), 4);
        CHECK.told("nerve 1 each", y, y.fearFor(0), 1);
        CHECK.told("more than the one who starts", y, y.fearFor(1), 2);
        CHECK.told("two start: one stands", y, y.fearFor(3), -2);
        String officers = "legion holds 1 lots 6 fear 0 mutiny 9;ten t;ten u;man a plain in t nerve 0;man b plain in t nerve 0;"
                + "man c officer in u nerve 0;man d officer in u nerve 0;man e officer in u nerve 0;man f officer in u nerve 0;"
                + "man g plain in u nerve 0";
        TenthBean w = Check.legion(officers);
        CHECK.due("a goes, b fears", w.lot(0), 1);
        w.braces(6, true);
        CHECK.told("g stands", w, w.fearFor(0), 0);
        w.braces(6, false);
        CHECK.told("nine run: no more than nine are feared", w, w.fearFor(0), -2);
        TenthBean v = Check.legion(officers.replace(";man g plain in u nerve 0", ""));
        v.lot(0);
        CHECK.told("eight run: nine", v, v.fearFor(0), 9);
        TenthBean z = Check.legion("legion holds 1 lots 6 fear 0 mutiny 9;ten t;man a coward in t nerve 0;man b coward in t nerve 0");
        z.lot(0);
        CHECK.told("a coward fears not", z, z.fearFor(0), -2);
    }

    private static void nobody() {
        TenthBean x = Check.legion("legion holds 1 lots 2 fear 0 mutiny 1;ten t;man a plain in t nerve 0");
        x.lot(0);
        CHECK.told("runs", x, x.runs(0), 0);
        CHECK.told("holds", x, x.holds(0), 0);
        CHECK.told("worst", x, x.worst(), -2);
        CHECK.told("breaks", x, x.breaks(), 0);
        CHECK.told("brace", x, x.brace(0), -2);
        CHECK.told("toHearten", x, x.toHearten(0), -2);
        CHECK.told("fearFor", x, x.fearFor(0), -2);
    }
}
