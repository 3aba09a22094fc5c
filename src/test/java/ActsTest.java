/** Promises 45 to 51: lot, braces, move, seed, undo, image, back. */
public final class ActsTest {
    private static final Check CHECK = new Check();

    public static void main(String[] args) {
        noLegion();
        lots();
        bracing();
        moving();
        seeds();
        undoing();
        sixteen();
        images();
        CHECK.end();
    }

    private static void noLegion() {
        TenthBean x = new TenthBean();
        CHECK.refused("lot", x, x.lot(0), -1, 1);
        CHECK.refused("braces", x, x.braces(0, true), 1);
        CHECK.refused("move", x, x.move(0, 0), 1);
        CHECK.refused("seed", x, x.seed(0), 1);
        CHECK.refused("seed, bad too", x, x.seed(-1), 1);
        CHECK.refused("undo", x, x.undo(), 6);
        CHECK.refused("image", x, x.image(), -1, 1);
        CHECK.refused("back", x, x.back(0), 1);
    }

    private static void lots() {
        TenthBean x = Check.legion(Check.FULL);
        CHECK.refused("lot(2)", x, x.lot(2), -1, 1);
        CHECK.refused("lot(-1)", x, x.lot(-1), -1, 1);
        int[] tens = {0, 1, 0, 1};
        int[] black = {4, 8, 32, 16};
        int[] seeds = {74, 5624, 28652, 51790};
        for (int i = 0; i < 4; i++) {
            CHECK.told("lot " + i, x, x.lot(tens[i]), black[i]);
            CHECK.due("SEED " + i, x.size(9), seeds[i]);
        }
        CHECK.refused("nobody of it", x, x.lot(1), -1, 6);
        CHECK.due("SEED stays", x.size(9), 51790);
        CHECK.told("ben", x, x.lot(0), 2);
        CHECK.told("abe", x, x.lot(0), 1);
        CHECK.refused("nobody at all", x, x.lot(0), -1, 6);
        CHECK.due("acts", x.size(10), 6);
        TenthBean y = Check.legion("legion holds 0 lots 2 fear 0 mutiny 1;ten t;ten u;man a plain in t nerve 0;man b plain in t nerve 0;friend a b");
        CHECK.told("a", y, y.lot(0), 1);
        CHECK.refused("MUTINY", y, y.lot(0), -1, 5);
        CHECK.refused("MUTINY ahead of nobody", y, y.lot(1), -1, 5);
        CHECK.refused("no ten ahead of MUTINY", y, y.lot(2), -1, 1);
        CHECK.due("refused ones are no ACTS", y.size(10), 1);
        TenthBean z = Check.legion("legion holds 0 lots 2 fear 0 mutiny 9;ten t;man a plain in t nerve 0;man b plain in t nerve 0;"
                + "man c plain in t nerve 0;man d plain in t nerve 0");
        // 74 mod 4: c; of a b d 5624 mod 3: d
        CHECK.told("two beans, two draws", z, z.lot(0), 12);
        CHECK.due("SEED", z.size(9), 5624);
    }

    private static void bracing() {
        TenthBean x = Check.legion(Check.FULL);
        CHECK.refused("braces(6)", x, x.braces(6, true), 1);
        CHECK.refused("braces(-1)", x, x.braces(-1, true), 1);
        CHECK.refused("not, and isn't", x, x.braces(0, false), 5);
        CHECK.due("braces", x.braces(0, true), true);
        CHECK.due("no trouble", x.trouble(), 0);
        CHECK.due("is", x.man(0, 7), 1);
        CHECK.refused("it is so", x, x.braces(0, true), 5);
        CHECK.due("not", x.braces(0, false), true);
        CHECK.due("isn't", x.man(0, 7), 0);
        CHECK.due("two ACTS", x.size(10), 2);
        x.lot(0);
        CHECK.refused("he isn't there", x, x.braces(2, true), 5);
    }

    private static void moving() {
        TenthBean x = Check.legion(Check.FULL);
        CHECK.refused("move man", x, x.move(6, 0), 1);
        CHECK.refused("move ten", x, x.move(0, 2), 1);
        CHECK.refused("move ten", x, x.move(0, -1), 1);
        CHECK.refused("is in that ten", x, x.move(0, 0), 5);
        CHECK.due("move", x.move(0, 1), true);
        CHECK.due("ten", x.man(0, 1), 1);
        CHECK.due("one ACT", x.size(10), 1);
        // of ben cal fay 74 mod 3: fay
        CHECK.told("lot", x, x.lot(0), 32);
        CHECK.refused("he isn't there", x, x.move(5, 1), 5);
        CHECK.refused("nor in another ten", x, x.move(5, 0), 5);
    }

    private static void seeds() {
        TenthBean x = Check.legion(Check.FULL);
        CHECK.refused("seed(-1)", x, x.seed(-1), 2);
        CHECK.refused("seed(65537)", x, x.seed(65537), 2);
        CHECK.due("seed(65536)", x.seed(65536), true);
        CHECK.due("no trouble", x.trouble(), 0);
        CHECK.due("SEED", x.size(9), 65536);
        CHECK.due("no ACT", x.size(10), 0);
        // 65536 is 1 below 0: 74 less 75, which is 65536: mod 4 is 0
        CHECK.told("lot", x, x.lot(0), 1);
        CHECK.due("SEED", x.size(9), 65536);
    }

    private static void undoing() {
        TenthBean x = Check.legion(Check.FULL);
        CHECK.refused("nothing", x, x.undo(), 6);
        x.seed(0);
        x.lot(0);
        x.braces(0, true);
        x.move(0, 1);
        x.seed(99);
        CHECK.due("undo move", x.undo(), true);
        CHECK.due("no trouble", x.trouble(), 0);
        CHECK.due("his ten", x.man(0, 1), 0);
        CHECK.due("his NERVE", x.man(0, 3), 2);
        CHECK.due("SEED too", x.size(9), 74);
        CHECK.due("undo brace", x.undo(), true);
        CHECK.due("not braced", x.man(0, 7), 0);
        CHECK.due("undo lot", x.undo(), true);
        CHECK.due("all there", x.there(), 63);
        CHECK.due("SEED", x.size(9), 0);
        CHECK.due("no LOT", x.ten(0, 2), 0);
        CHECK.due("NERVE", x.man(1, 3), 2);
        CHECK.due("no ANGER", x.anger(), 0);
        CHECK.refused("no more", x, x.undo(), 6);
        CHECK.told("again", x, x.lot(0), 4);
    }

    private static void sixteen() {
        TenthBean x = Check.legion(Check.FULL);
        x.braces(1, true);
        for (int i = 0; i < 16; i++) {
            CHECK.due("brace", x.braces(0, i % 2 == 0), true);
        }
        CHECK.due("16 are kept", x.size(10), 16);
        for (int i = 0; i < 16; i++) {
            CHECK.due("undo", x.undo(), true);
            CHECK.due("as ahead of it", x.man(0, 7), (i + 1) % 2);
        }
        CHECK.refused("the 17th", x, x.undo(), 6);
        CHECK.due("stays", x.man(1, 7), 1);
    }

    private static void images() {
        TenthBean x = Check.legion(Check.FULL);
        CHECK.refused("back(0)", x, x.back(0), 1);
        CHECK.told("image", x, x.image(), 0);
        x.lot(0);
        x.braces(0, true);
        CHECK.told("image", x, x.image(), 1);
        x.lot(1);
        CHECK.told("image", x, x.image(), 2);
        CHECK.refused("no room", x, x.image(), -1, 3);
        CHECK.due("three", x.size(11), 3);
        CHECK.refused("back(3)", x, x.back(3), 1);
        CHECK.refused("back(-1)", x, x.back(-1), 1);
        CHECK.due("acts stay", x.size(10), 3);
        CHECK.due("back(0)", x.back(0), true);
        CHECK.due("no trouble", x.trouble(), 0);
        CHECK.due("all there", x.there(), 63);
        CHECK.due("SEED too", x.size(9), 0);
        CHECK.refused("nothing can be undone", x, x.undo(), 6);
        CHECK.due("all IMAGES stay", x.size(11), 3);
        CHECK.due("back(2)", x.back(2), true);
        CHECK.due("dan too", x.there(), 51);
        CHECK.due("SEED", x.size(9), 5624);
        x.lot(0);
        CHECK.due("back(1)", x.back(1), true);
        CHECK.due("cal alone", x.there(), 59);
        CHECK.due("abe braced", x.man(0, 7), 1);
        CHECK.due("ben's NERVE", x.man(1, 3), 4);
        CHECK.due("LOTS", x.ten(0, 2), 1);
        CHECK.due("ANGER", x.anger(), 1);
    }
}
