import java.util.NoSuchElementException;

/** Terms III from ACTS, IV, promises 45 to 54, the constants: each sentence that names a boundary case. */
final class EdgesOfActs {
    private static final String MEN = Edges.head(0, 6, 2, 30) + ";ten t;ten u" + Edges.men('a', 8, "plain", "t", 0);

    private final Check check;
    private final Edges edges;

    EdgesOfActs(Check check, Edges edges) {
        this.check = check;
        this.edges = edges;
    }

    void run() {
        actsOf();
        undoOf();
        imagesOf();
        troubleOf();
        lot();
        braces();
        move();
        seed();
        undo();
        image();
        back();
        led();
        size();
        trouble();
        constants();
    }

    // ---- Terms III

    private void actsOf() {
        edges.sentence(Edges.TERMS, "ACTS: LOT (by SEED, likewise), BRACE a man or not, MOVE him to another ten"
                + " (his FEAR is as if no LOT had been drawn there yet).");
        TenthBean x = Check.legion(MEN);
        check.told("c: 74 mod 8", x, x.lot(0), 4);
        check.due("braced", x.braces(0, true), true);
        check.due("not braced", x.braces(0, false), true);
        check.told("FEAR", x, x.man(0, 3), 2);
        check.due("moved", x.move(0, 1), true);
        check.told("no FEAR", x, x.man(0, 3), 0);
        check.told("FEAR of the others", x, x.man(1, 3), 2);
        check.due("moved back", x.move(0, 0), true);
        check.told("as if no LOT had been drawn there", x, x.man(0, 3), 0);
        check.told("but one was", x, x.ten(0, 2), 1);
        check.told("b: 5624 mod 7 is 3, of a b d e: e", x, x.lot(0), 16);
        check.told("FEAR of the one LOT since", x, x.man(0, 3), 2);
        check.told("of both", x, x.man(1, 3), 4);
        check.due("so many ACTS", x.size(10), 6);
        TenthBean two = Check.legion(MEN.replace("lots 6", "lots 2"));
        check.told("four DRAWS: c, e of abde.., f, d", two, two.lot(0), fourOfEight());
    }

    /** By SEED 0: 74 mod 8, 5624 mod 7, 28652 mod 6, 51790 mod 5. */
    private static int fourOfEight() {
        StringBuilder left = new StringBuilder("01234567");
        int black = 0;
        for (int draw : new int[] {74, 5624, 28652, 51790}) {
            int k = draw % left.length();
            black |= 1 << left.charAt(k) - '0';
            left.deleteCharAt(k);
        }
        return black;
    }

    private void undoOf() {
        edges.sentence(Edges.TERMS, "UNDO: all, SEED too, is as ahead of the latest (16 are kept).");
        TenthBean x = Check.legion(Check.FULL);
        x.seed(5);
        int[] ahead = Edges.state(x);
        x.lot(0);
        undone("lot", x, ahead);
        x.braces(0, true);
        undone("braces", x, ahead);
        x.move(1, 1);
        undone("move", x, ahead);
        x.lot(1);
        x.seed(9);
        x.lot(0);
        x.seed(11);
        check.due("undo", x.undo(), true);
        check.due("SEED as ahead of it, though no ACT", x.size(9), 9);
        check.due("undo", x.undo(), true);
        check.due("SEED", x.size(9), 5);
        sixteen();
    }

    private void undone(String name, TenthBean x, int[] ahead) {
        check.due(name + " can be undone", x.size(10), 1);
        check.due(name + " undone", x.undo(), true);
        int[] behind = Edges.state(x);
        for (int i = 0; i < ahead.length; i++) {
            check.due(name + ": as it was, " + i, behind[i], ahead[i]);
        }
    }

    private void sixteen() {
        TenthBean x = Check.legion(MEN);
        for (int i = 0; i < 40; i++) {
            check.due("ACT", x.braces(i % 8, i / 8 % 2 == 0), true);
            check.due("at most 16", x.size(10), Math.min(i + 1, 16));
        }
        for (int i = 0; i < 5; i++) {
            check.due("undo", x.undo(), true);
        }
        check.due("11 are left", x.size(10), 11);
        for (int i = 0; i < 7; i++) {
            x.move(i, 1);
        }
        check.due("16 again", x.size(10), 16);
        for (int i = 6; i >= 0; i--) {
            check.told("moved", x, x.man(i, 1), 1);
            x.undo();
            check.told("moved back", x, x.man(i, 1), 0);
        }
        // as behind 35: of the 40 those from 24 on were kept, but two of them were pushed out by the moves
        for (int i = 34; i >= 26; i--) {
            check.due("undo", x.undo(), true);
            check.told("as ahead of ACT " + i, x, x.man(i % 8, 7), i / 8 % 2);
        }
        check.refused("no more", x, x.undo(), 6);
        check.due("none", x.size(10), 0);
    }

    private void imagesOf() {
        edges.sentence(Edges.TERMS, "IMAGES: up to 3; gone back to one, nothing can be undone.");
        TenthBean x = Check.legion(MEN);
        for (int i = 0; i < 3; i++) {
            check.told("image", x, x.image(), i);
            x.lot(0);
        }
        check.refused("a fourth", x, x.image(), -1, 3);
        check.due("three ACTS", x.size(10), 3);
        check.due("back", x.back(1), true);
        check.due("nothing to undo", x.size(10), 0);
        check.refused("undo", x, x.undo(), 6);
        x.braces(0, x.man(0, 7) == 0);
        check.due("what is done then can be", x.undo(), true);
        check.refused("that alone", x, x.undo(), 6);
        check.refused("nor is there room for a fourth then", x, x.image(), -1, 3);
    }

    // ---- Terms IV

    private void troubleOf() {
        edges.sentence(Edges.TERMS, "IV. TROUBLE of the latest call that may be refused (those of which a number is told here):");
        TenthBean x = Check.legion(MEN);
        x.runs(-1);
        x.fault();
        x.where();
        x.size(13);
        x.trouble();
        Check.led(x, 0);
        x.feed(0, 0, 0, 0, 0);
        for (int i = 0; i < 50; i++) {
            x.feed(0, 0, 0, 0, 0);
        }
        check.due("a feed that didn't come too", x.trouble(), 2);
        x.line(10, true, true, true);
        check.due("line", x.trouble(), 2);
        x.doubt(true);
        check.due("doubt", x.trouble(), 6);
        edges.sentence(Edges.TERMS, "0 it wasn't;");
        check.due("of a new object", new TenthBean().trouble(), 0);
        x.runs(-1);
        x.worst();
        check.due("behind one that was", x.trouble(), 0);
        TenthBean y = Check.legion(MEN.replace("lots 6", "lots 2"));
        y.undo();
        y.seed(3);
        check.due("seed", y.trouble(), 0);
        y.undo();
        y.back(y.image());
        check.due("image and back", y.trouble(), 0);
        y.undo();
        y.lot(0);
        check.due("lot", y.trouble(), 0);
        y.undo();
        check.due("undo", y.trouble(), 0);
        y.breaks();
        check.due("-2 is no refusal", y.trouble(), 0);
        edges.sentence(Edges.TERMS, "1 there is none such;");
        check.refused("man", x, x.man(8, 0), -1, 1);
        edges.sentence(Edges.TERMS, "2 a number;");
        check.refused("wars", x, x.wars(0, 61), -1, 2);
        edges.sentence(Edges.TERMS, "3 no room;");
        for (int i = 0; i < 3; i++) {
            check.told("image", x, x.image(), i);
        }
        check.refused("image", x, x.image(), -1, 3);
        edges.sentence(Edges.TERMS, "4 a FAULT;");
        check.refused("legion", x, x.legion(1), -1, 4);
        edges.sentence(Edges.TERMS, "5 not so;");
        check.refused("braces", x, x.braces(0, false), 5);
        edges.sentence(Edges.TERMS, "6 there is none.");
        check.refused("undo", x, x.undo(), 6);
    }

    // ---- promises 45 to 51

    private void lot() {
        edges.sentence(45, "LOT: who drew black beans, as bits.");
        TenthBean x = Check.legion(MEN);
        check.told("the first", x, Edges.lotOf(x, 0, 0), 1);
        check.told("the last", x, Edges.lotOf(x, 0, 6), 128);
        check.due("they are gone", x.there(), 126);
        TenthBean one = Check.legion(Edges.head(0, 2, 0, 30) + ";ten t;man a plain in t nerve 0");
        check.told("the one", one, one.lot(0), 1);
        edges.sentence(45, "NONE: 1; 5 (MUTINY); 6 (nobody of it is there).");
        TenthBean none = new TenthBean();
        check.refused("no LEGION", none, none.lot(0), -1, 1);
        for (int t : Edges.outside(1)) {
            check.refused("lot(" + t + ")", x, x.lot(t), -1, 1);
        }
        check.refused("nobody of it", x, x.lot(1), -1, 6);
        check.refused("nor of the one", one, one.lot(0), -1, 6);
        TenthBean y = Check.legion(MEN.replace("mutiny 30", "mutiny 1") + ";friend a b");
        Edges.lotOf(y, 0, 0);
        int seed = y.size(9);
        check.refused("MUTINY", y, y.lot(0), -1, 5);
        check.refused("5 ahead of 6", y, y.lot(1), -1, 5);
        check.refused("1 ahead of 5", y, y.lot(2), -1, 1);
        check.due("nobody went", y.there(), 254);
        check.due("no DRAW", y.size(9), seed);
        check.due("no ACT", y.size(10), 1);
        check.due("no LOT", y.ten(0, 2), 1);
        check.due("braces is no LOT: MUTINY means nothing to it", y.braces(1, true), true);
        check.due("nor to move", y.move(1, 1), true);
    }

    private void braces() {
        edges.sentence(46, "BRACE a man, or not (not is): true;");
        TenthBean x = Check.legion(MEN);
        for (int m : new int[] {0, 7}) {
            check.due("braces", x.braces(m, true), true);
            check.due("not refused", x.trouble(), 0);
            check.told("is", x, x.man(m, 7), 1);
        }
        check.due("not", x.braces(7, false), true);
        check.told("isn't", x, x.man(7, 7), 0);
        check.told("the other is", x, x.man(0, 7), 1);
        edges.sentence(46, "false: 1; 5 (he isn't there, it is so).");
        TenthBean none = new TenthBean();
        check.refused("no LEGION", none, none.braces(0, true), 1);
        for (int m : Edges.outside(7)) {
            check.refused("braces(" + m + ")", x, x.braces(m, true), 1);
            check.refused("not braces(" + m + ")", x, x.braces(m, false), 1);
        }
        check.refused("it is so", x, x.braces(0, true), 5);
        check.refused("it isn't", x, x.braces(7, false), 5);
        Edges.lotOf(x, 0, 0);
        check.refused("he isn't there", x, x.braces(0, false), 5);
        check.refused("nor that", x, x.braces(0, true), 5);
        check.told("as he was", x, x.man(0, 7), 1);
        check.due("refused ones are no ACTS", x.size(10), 4);
    }

    private void move() {
        edges.sentence(47, "MOVE: true;");
        TenthBean x = Check.legion(MEN);
        check.due("the last", x.move(7, 1), true);
        check.due("not refused", x.trouble(), 0);
        check.told("there", x, x.ten(1, 0), 128);
        check.told("not here", x, x.ten(0, 0), 127);
        for (int m = 0; m < 7; m++) {
            check.due("all", x.move(m, 1), true);
        }
        check.told("eight in one", x, x.ten(1, 0), 255);
        edges.sentence(47, "false: 1; 5 (he isn't there, is in that ten).");
        TenthBean none = new TenthBean();
        check.refused("no LEGION", none, none.move(0, 0), 1);
        for (int m : Edges.outside(7)) {
            check.refused("move(" + m + ")", x, x.move(m, 0), 1);
        }
        for (int t : Edges.outside(1)) {
            check.refused("move to " + t, x, x.move(0, t), 1);
        }
        check.refused("is in that ten", x, x.move(0, 1), 5);
        Edges.lotOf(x, 1, 0);
        check.refused("he isn't there", x, x.move(0, 0), 5);
        check.refused("nor in that", x, x.move(0, 1), 5);
        check.refused("1 ahead of 5", x, x.move(0, 2), 1);
        check.due("refused ones are no ACTS", x.size(10), 9);
        TenthBean one = Check.legion(Edges.head(0, 2, 0, 30) + ";ten t;man a plain in t nerve 0");
        check.refused("no other ten", one, one.move(0, 0), 5);
    }

    private void seed() {
        edges.sentence(48, "SEED (no ACT): true;");
        TenthBean x = Check.legion(MEN);
        for (int v : new int[] {0, 1, 65536}) {
            check.due("seed", x.seed(v), true);
            check.due("not refused", x.trouble(), 0);
            check.due("SEED", x.size(9), v);
        }
        check.due("no ACT", x.size(10), 0);
        check.refused("undo", x, x.undo(), 6);
        edges.sentence(48, "false: 1 (no LEGION); 2 (0 .. 65,536).");
        TenthBean none = new TenthBean();
        check.refused("no LEGION", none, none.seed(0), 1);
        check.refused("no LEGION, bad too", none, none.seed(-1), 1);
        check.due("none was kept", none.size(9), 0);
        for (int v : Edges.outside(65536)) {
            check.refused("seed(" + v + ")", x, x.seed(v), 2);
            check.due("SEED stays", x.size(9), 65536);
        }
    }

    private void undo() {
        edges.sentence(49, "UNDO: true; false: 6.");
        TenthBean none = new TenthBean();
        check.refused("no LEGION", none, none.undo(), 6);
        TenthBean x = Check.legion(MEN);
        check.refused("no ACT", x, x.undo(), 6);
        x.move(0, 1);
        check.due("undo", x.undo(), true);
        check.due("not refused", x.trouble(), 0);
        check.refused("no other", x, x.undo(), 6);
        x.move(0, 0);
        check.refused("a refused call is none", x, x.undo(), 6);
    }

    private void image() {
        edges.sentence(50, "An IMAGE: its number.");
        TenthBean x = Check.legion(MEN);
        for (int i = 0; i < 3; i++) {
            check.told("image", x, x.image(), i);
            check.due("so many", x.size(11), i + 1);
        }
        check.due("no ACT", x.size(10), 0);
        edges.sentence(50, "NONE: 1 (no LEGION); 3.");
        TenthBean none = new TenthBean();
        check.refused("no LEGION", none, none.image(), -1, 1);
        check.refused("no room", x, x.image(), -1, 3);
        check.due("three", x.size(11), 3);
        Check.tell(x, MEN);
        check.told("another LEGION", x, x.image(), 0);
    }

    private void back() {
        edges.sentence(51, "All is as by an IMAGE (all IMAGES stay): true; false: 1.");
        TenthBean x = Edges.used();
        x.seed(77);
        int third = x.image();
        check.told("the third", x, third, 2);
        int[] ahead = Edges.state(x);
        x.lot(0);
        x.move(4, 0);
        x.braces(4, true);
        for (int k = 0; k < 2; k++) {
            check.due("back", x.back(third), true);
            check.due("not refused", x.trouble(), 0);
            int[] behind = Edges.state(x);
            for (int i = 0; i < ahead.length; i++) {
                check.due("as it was, " + i, behind[i], i == 10 ? 0 : ahead[i]);
            }
            check.due("the first stays", x.back(0), true);
            check.due("all are there", x.there(), 63);
            check.due("its SEED", x.size(9), 0);
        }
        check.due("all stay", x.size(11), 3);
        for (int i : Edges.outside(2)) {
            check.refused("back(" + i + ")", x, x.back(i), 1);
        }
        TenthBean none = new TenthBean();
        check.refused("no LEGION", none, none.back(0), 1);
        TenthBean y = Check.legion(MEN);
        check.refused("no IMAGE", y, y.back(0), 1);
        y.image();
        y.move(0, 1);
        check.refused("no second", y, y.back(1), 1);
        check.due("a refused one changes nothing", y.size(10), 1);
    }

    // ---- promises 52 to 54

    private boolean throwsAt(TenthBean x, int i) {
        try {
            x.led(i);
            return false;
        } catch (NoSuchElementException e) {
            return e.getClass() == NoSuchElementException.class;
        }
    }

    private void led() {
        edges.sentence(52, "The i-th man, by numbers, who is gone by LOTS.");
        TenthBean x = Check.legion(MEN);
        int[] order = {7, 0, 2, 0, 3, 0, 1, 0};
        for (int k : order) {
            Edges.lotOf(x, 0, k);
        }
        for (int i = 0; i < 8; i++) {
            check.due("all eight", Check.led(x, i), i);
        }
        x.undo();
        x.undo();
        check.due("seven, then six: b .. but e f", Check.led(x, 5) > Check.led(x, 4), true);
        check.due("no seventh", throwsAt(x, 6), true);
        TenthBean first = Check.legion(MEN);
        Edges.lotOf(first, 0, 5);
        check.due("f", Check.led(first, 0), 5);
        check.due("not refused: trouble stays", first.trouble(), 0);
        edges.sentence(52, "NoSuchElementException if there is none such.");
        check.due("no LEGION", throwsAt(new TenthBean(), 0), true);
        TenthBean none = Check.legion(MEN);
        check.due("none is gone", throwsAt(none, 0), true);
        for (int i : Edges.outside(0)) {
            check.due("led(" + i + ")", throwsAt(first, i), true);
        }
        first.runs(-1);
        throwsAt(first, 1);
        check.due("trouble stays by it", first.trouble(), 2);
    }

    private void size() {
        edges.sentence(53, "0 holds, 1 lots, 2 fear, 3 mutiny as told, 4 tens, 5 men, 6 friends told, 7 drawn as told, 8 among told,"
                + " 9 SEED, 10 ACTS that can be undone, 11 IMAGES, 12 bytes of THE TAPE.");
        TenthBean x = Edges.used();
        Check.feed(x, "x");
        x.seed(65536);
        int[] want = {3, 3, 1, 3, 2, 6, 3, 2, 2, 65536, 4, 2, 20};
        sizes(x, want);
        Edges.lotOf(x, 1, 0);
        check.due("men as told", x.size(5), 6);
        edges.sentence(53, "NONE for others;");
        for (int what : Edges.outside(12)) {
            check.due("size(" + what + ")", x.size(what), -1);
            check.due("of no LEGION, size(" + what + ")", new TenthBean().size(what), -1);
        }
        edges.sentence(53, "0 for what there isn't.");
        sizes(new TenthBean(), new int[13]);
        sizes(Check.legion(Edges.head(0, 2, 0, 1) + ";ten t"), new int[] {0, 2, 0, 1, 1, 0, 0, 0, 0, 0, 0, 0, 0});
        TenthBean none = new TenthBean();
        Check.tell(none, MEN + ";friend a a");
        sizes(none, new int[13]);
        Check.feed(none, "x");
        sizes(none, new int[] {0, 0, 0, 0, 0, 0, 0, 0, 0, 0, 0, 0, 20});
    }

    private void sizes(TenthBean x, int[] want) {
        for (int what = 0; what < want.length; what++) {
            check.due("size(" + what + ")", x.size(what), want[what]);
        }
    }

    private void trouble() {
        edges.sentence(54, "TROUBLE.");
        TenthBean x = Check.legion(MEN);
        x.runs(-1);
        check.due("once", x.trouble(), 2);
        check.due("and again", x.trouble(), 2);
        x.man(9, 0);
        check.due("of the latest", x.trouble(), 1);
        x.man(0, 0);
        check.due("which wasn't", x.trouble(), 0);
    }

    private void constants() {
        check.due("NONE", TenthBean.NONE, -1);
    }
}
