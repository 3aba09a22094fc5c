/** Terms III from HELMET to WARS, promises 29 to 44: each sentence that names a boundary case. */
final class EdgesOfOdds {
    private static final String MEN = Edges.head(0, 6, 0, 30) + ";ten t" + Edges.men('a', 8, "plain", "t", 7);

    private final Check check;
    private final Edges edges;

    EdgesOfOdds(Check check, Edges edges) {
        this.check = check;
        this.edges = edges;
    }

    void run() {
        helmetOf();
        doubtOf();
        goneOfAll();
        askOf();
        twoInLine();
        warsBy();
        doubt();
        next();
        doubtIf();
        honest();
        gone();
        goneAt();
        goneOf();
        surelyGone();
        ask();
        askLeaves();
        line();
        rests();
        rest();
        wars();
        warsLeft();
        warsOf();
    }

    /** Eight men and a helmet for b. */
    private static TenthBean helmet(int beans, int black, int shaken, String drawn) {
        return Check.legion(MEN + ";helmet beans " + beans + " black " + black + " shaken " + shaken + " for b" + drawn);
    }

    private void doubt(TenthBean x, long upper, long lower) {
        check.told("doubt upper", x, x.doubt(false), upper);
        check.told("doubt lower", x, x.doubt(true), lower);
    }

    private void next(TenthBean x, int m, long upper, long lower) {
        check.told("next(" + m + ") upper", x, x.next(m, false), upper);
        check.told("next(" + m + ") lower", x, x.next(m, true), lower);
    }

    private void doubtIf(TenthBean x, int m, boolean black, long upper, long lower) {
        check.told("doubtIf(" + m + ", " + black + ") upper", x, x.doubtIf(m, black, false), upper);
        check.told("doubtIf(" + m + ", " + black + ") lower", x, x.doubtIf(m, black, true), lower);
    }

    private void honest(TenthBean x, long upper, long lower) {
        check.told("honest upper", x, x.honest(false), upper);
        check.told("honest lower", x, x.honest(true), lower);
    }

    // ---- Terms III

    private void helmetOf() {
        edges.sentence(Edges.TERMS, "HELMET: honest: each draws one of the beans that are left, as likely;");
        honest(helmet(1, 1, 50, ";drew a black"), 1, 1);
        honest(helmet(12, 6, 50, ";drew a black;drew b black;drew c black;drew d black;drew e black;drew f black"), 1, 924);
        honest(helmet(12, 1, 50, ";drew a white;drew b white;drew c white;drew d white;drew e white;drew f white"), 1, 2);
        next(helmet(12, 6, 0, ";drew a black"), 2, 5, 11);
        next(helmet(12, 6, 0, ";drew a white"), 2, 6, 11);
        next(helmet(2, 1, 0, ";drew a white"), 2, 1, 1);
        edges.sentence(Edges.TERMS, "shaken: a black one is put aside for the one told till he draws, who has it then"
                + " (if it is the only one left, nobody else draws one).");
        next(helmet(3, 1, 100, ""), 1, 1, 1);
        next(helmet(3, 1, 100, ""), 0, 0, 1);
        next(helmet(3, 2, 100, ""), 0, 1, 2);
        next(helmet(3, 2, 100, ";drew b black"), 0, 1, 2);
        next(helmet(12, 12, 100, ""), 0, 1, 1);
        doubt(helmet(3, 1, 50, ";drew b white"), 0, 1);
        doubt(helmet(3, 1, 50, ";drew b black;drew a white;drew c white"), 3, 4);
        TenthBean only = helmet(2, 1, 100, ";drew c white");
        next(only, 0, 0, 1);
        doubtIf(only, 0, true, 0, 1);
        doubtIf(only, 0, false, 0, 1);
        next(only, 1, 1, 1);
        doubtIf(only, 1, true, 1, 1);
        TenthBean half = helmet(2, 1, 50, ";drew c white");
        next(half, 0, 1, 3);
        doubtIf(half, 0, true, 0, 1);
        doubtIf(half, 0, false, 0, 1);
        doubtIf(half, 1, true, 2, 3);
    }

    private void doubtOf() {
        edges.sentence(Edges.TERMS, "DOUBT: how likely it is shaken by all that were drawn.");
        doubt(helmet(5, 2, 0, ""), 0, 1);
        doubt(helmet(5, 2, 100, ""), 1, 1);
        doubt(helmet(5, 2, 1, ""), 1, 100);
        doubt(helmet(5, 2, 40, ""), 2, 5);
        doubt(helmet(3, 1, 50, ";drew a white"), 3, 5);
        doubt(helmet(3, 1, 50, ";drew a white;drew b black"), 3, 4);
        doubt(helmet(3, 1, 99, ";drew a black"), 0, 1);
        doubt(helmet(3, 1, 0, ";drew a white;drew b black"), 0, 1);
        doubt(helmet(3, 1, 100, ";drew a white;drew b black"), 1, 1);
    }

    private static TenthBean earlier(int men, String told) {
        return Check.legion(Edges.head(0, 6, 0, 30) + ";ten t" + Edges.men('a', men, "plain", "t", 7) + told);
    }

    private void goneOfAll() {
        edges.sentence(Edges.TERMS, "GONE: sets of so many of all men told as gone, of each among two so many: all that fit.");
        int[] of8 = {1, 8, 28, 56, 70, 56, 28, 8, 1};
        for (int k = 0; k <= 8; k++) {
            TenthBean x = earlier(8, ";gone " + k);
            check.told("gone " + k + " of 8", x, x.gone(), of8[k]);
        }
        int[] among = {15, 40, 15};
        for (int k = 0; k <= 2; k++) {
            TenthBean x = earlier(8, ";gone 4;among h a " + k);
            check.told("among two " + k, x, x.gone(), among[k]);
        }
        TenthBean all = earlier(8, ";gone 4;among a b 1;among c d 1;among e f 1;among g h 1;among a c 1");
        check.told("of each", all, all.gone(), 8);
        TenthBean none = earlier(8, ";gone 1;among a b 2");
        check.told("none fits", none, none.gone(), 0);
        TenthBean unlike = earlier(8, ";gone 4;among a b 1;among b a 2");
        check.told("two that don't fit", unlike, unlike.gone(), 0);
        Edges.lotOf(all, 0, 0);
        check.told("of all men, there or not", all, all.gone(), 8);
    }

    private void askOf() {
        edges.sentence(Edges.TERMS, "ASK: the man (of all) by whom, it being told whether he is one, at most fewest sets are left, the first such.");
        TenthBean x = earlier(4, ";gone 1;among a b 0");
        check.told("c or d: the first", x, x.ask(), 2);
        TenthBean last = earlier(4, ";gone 1;among a b 0;among a c 0");
        check.told("one set: all alike", last, last.ask(), 0);
        TenthBean most = earlier(5, ";gone 4");
        check.told("whether he is one or not", most, most.ask(), 0);
        check.told("at most", most, most.askLeaves(), 4);
        TenthBean fourth = earlier(5, ";gone 3;among a b 2;among a c 1");
        check.told("d or e", fourth, fourth.gone(), 2);
        check.told("d", fourth, fourth.ask(), 3);
        Edges.lotOf(fourth, 0, 3);
        check.told("of all, there or not", fourth, fourth.ask(), 3);
    }

    private void twoInLine() {
        edges.sentence(Edges.TERMS, "TWO in line: who stands has 5 if the other one stands, 4 below 0 if he runs; who runs has 3 less so much dread.");
        TenthBean x = earlier(0, "");
        for (int dread = 0; dread <= 9; dread++) {
            for (int ofOther = 0; ofOther <= 1; ofOther++) {
                boolean other = ofOther == 1;
                check.told("both stand", x, x.line(dread, false, false, other), 5);
                check.told("both run", x, x.line(dread, true, true, other), 3 - dread);
                check.told("who stands", x, x.line(dread, other, !other, other), -4);
                check.told("who runs", x, x.line(dread, !other, other, other), 3 - dread);
            }
        }
        edges.sentence(Edges.TERMS, "REST: a pair by which neither could have more alone.");
        for (int dread = 0; dread <= 9; dread++) {
            check.told("both run: as much at 7, less at 8", x, x.rests(dread), dread <= 7 ? 2 : 1);
            check.told("both stand", x, x.rest(dread), 0);
        }
    }

    /** SEED from 0: 74, 5624, 28652, 51790, 17641, 12409. */
    private void warsBy() {
        edges.sentence(Edges.TERMS, "WARS by a SEED from NOW: each: a LOT of the ten whose number is the war's (from 0 on) mod tens");
        TenthBean x = Check.legion(Edges.head(0, 6, 0, 30) + ";ten t;ten u;ten v;man a plain in v nerve 7;man b plain in u nerve 7;man c plain in t nerve 7");
        check.told("t", x, x.warsLeft(9, 1), 3);
        check.told("u", x, x.warsLeft(9, 2), 1);
        check.told("v", x, x.warsLeft(9, 3), 0);
        x.move(0, 0);
        check.told("a is of t NOW", x, Math.max(x.warsOf(0, 9, 60), x.warsOf(2, 9, 60)), 4);
        check.told("first of t", x, Math.min(x.warsOf(0, 9, 60), x.warsOf(2, 9, 60)), 1);
        edges.sentence(Edges.TERMS, "(nothing if nobody is there, or there is MUTINY):");
        TenthBean y = Check.legion(Edges.head(0, 6, 0, 30) + ";ten t;ten u" + Edges.men('a', 4, "plain", "t", 7));
        check.told("c in war 0", y, y.warsOf(2, 0, 60), 1);
        check.told("nobody of u: a START alone is drawn; in war 2 b", y, y.warsOf(1, 0, 60), 3);
        check.told("none is drawn of nobody", y, y.warsLeft(0, 2), 11);
        TenthBean angry = Check.legion(Edges.head(0, 6, 0, 1) + ";ten t" + Edges.men('a', 3, "plain", "t", 7) + ";friend a b;friend b c;friend a c");
        check.told("one LOT makes MUTINY", angry, angry.warsLeft(0, 60), 3);
        check.told("c", angry, angry.warsOf(2, 0, 60), 1);
        check.told("a is not drawn", angry, angry.warsOf(0, 0, 60), 0);
        angry.lot(0);
        check.told("MUTINY NOW", angry, angry.warsLeft(74, 60), 3);
        edges.sentence(Edges.TERMS, "as long as beans are to be drawn: a DRAW mod those of it still there: that one, by numbers, is gone;");
        TenthBean two = Check.legion(Edges.head(0, 2, 0, 30) + ";ten t;ten u" + Edges.men('a', 4, "plain", "t", 7) + Edges.men('e', 1, "plain", "u", 7));
        check.told("c, then d of a b d", two, two.warsLeft(0, 1), 19);
        check.told("d too in the first", two, two.warsOf(3, 0, 1), 1);
        check.told("not e", two, two.warsOf(4, 0, 1), 0);
        edges.sentence(Edges.TERMS, "then a DRAW mod all who are there (none if nobody is): that one is the START");
        TenthBean start = Check.legion(Edges.head(1, 6, 0, 30) + ";ten t;ten u" + Edges.men('a', 2, "plain", "t", 2) + ";man c officer in u nerve 7");
        check.told("a is gone, b starts, c stands", start, start.wars(0, 1), 1);
        check.told("a is gone", start, start.warsLeft(28652, 1), 6);
        check.told("c starts, and b runs", start, start.wars(28652, 1), 0);
        TenthBean nobody = earlier(0, "");
        check.told("nobody starts, none need stand", nobody, nobody.wars(0, 60), 60);
        TenthBean last = Check.legion(Edges.head(1, 6, 0, 30) + ";ten t;man a plain in t nerve 7");
        check.told("nobody is left to stand", last, last.wars(0, 60), 0);
        edges.sentence(Edges.TERMS, "(SEED becomes (75 times SEED and 74) mod 65,537).");
        int[][] steps = {{0, 74}, {872, 65474}, {873, 12}, {65535, 65461}, {65536, 65536}, {51790, 17641}};
        for (int[] s : steps) {
            TenthBean z = earlier(7, "");
            z.seed(s[0]);
            check.told("by DRAW " + s[1], z, z.lot(0), 1 << s[1] % 7);
            check.due("SEED", z.size(9), s[1]);
            check.due("likewise in WARS", earlier(7, "").warsLeft(s[0], 1), 127 & ~(1 << s[1] % 7));
        }
    }

    // ---- promises 29 to 32

    private void doubt() {
        edges.sentence(29, "DOUBT, likewise (0 by 1 if what was drawn can't be at all).");
        doubt(helmet(3, 1, 100, ";drew a black"), 0, 1);
        doubt(helmet(3, 2, 100, ";drew b white"), 0, 1);
        doubt(helmet(2, 2, 100, ";drew a black;drew b black"), 1, 1);
        edges.sentence(29, "-1: 1 (no LEGION); 6 (no helmet).");
        TenthBean none = new TenthBean();
        check.refused("no LEGION", none, none.doubt(true), -1, 1);
        TenthBean bare = Check.legion(MEN);
        check.refused("no helmet", bare, bare.doubt(false), -1, 6);
    }

    /** Refused of those who can't draw. */
    private void drawers(String name, TenthBean none, TenthBean bare, TenthBean x) {
        refusedDrawer(name + ", no LEGION", none, 0, 1);
        for (int m : Edges.outside(7)) {
            refusedDrawer(name + ", no man " + m, x, m, 1);
            refusedDrawer(name + ", no man and no helmet", bare, m, 1);
        }
        refusedDrawer(name + ", he drew white", x, 0, 5);
        refusedDrawer(name + ", he drew black", x, 7, 5);
        refusedDrawer(name + ", no helmet", bare, 0, 6);
    }

    private void refusedDrawer(String name, TenthBean x, int m, int trouble) {
        if (name.startsWith("next")) {
            check.refused(name, x, x.next(m, true), -1, trouble);
        } else {
            check.refused(name, x, x.doubtIf(m, true, true), -1, trouble);
            check.refused(name, x, x.doubtIf(m, false, false), -1, trouble);
        }
    }

    private void next() {
        edges.sentence(30, "How likely one who drew nothing draws a black bean next, by DOUBT, likewise (0 by 1, too, if no bean is left).");
        next(helmet(3, 1, 50, ""), 0, 1, 6);
        next(helmet(3, 1, 50, ""), 1, 2, 3);
        next(helmet(2, 1, 50, ";drew a white;drew b black"), 2, 0, 1);
        next(helmet(1, 1, 0, ";drew a black"), 7, 0, 1);
        next(helmet(2, 1, 0, ";drew a black"), 7, 0, 1);
        next(helmet(2, 2, 0, ";drew a black"), 7, 1, 1);
        next(helmet(3, 1, 100, ";drew a black"), 2, 0, 1);
        TenthBean gone = helmet(3, 1, 50, "");
        Edges.lotOf(gone, 0, 0);
        next(gone, 0, 1, 6);
        edges.sentence(30, "-1: 1; 5 (he drew one); 6.");
        drawers("next", new TenthBean(), Check.legion(MEN), helmet(12, 6, 50, ";drew a white;drew h black"));
    }

    private void doubtIf() {
        edges.sentence(31, "DOUBT, if he draws a black one (or not, a white one) next, likewise (0 by 1 if he can't).");
        doubtIf(helmet(3, 1, 50, ""), 0, true, 0, 1);
        doubtIf(helmet(3, 1, 50, ""), 0, false, 3, 5);
        doubtIf(helmet(3, 1, 50, ""), 1, true, 3, 4);
        doubtIf(helmet(3, 1, 50, ""), 1, false, 0, 1);
        doubtIf(helmet(2, 1, 50, ";drew a black"), 2, true, 0, 1);
        doubtIf(helmet(3, 1, 50, ";drew b black"), 2, true, 0, 1);
        doubtIf(helmet(3, 1, 50, ";drew b black"), 2, false, 3, 4);
        doubtIf(helmet(2, 2, 50, ";drew b black"), 2, false, 0, 1);
        doubtIf(helmet(2, 1, 50, ";drew b black;drew a white"), 2, true, 0, 1);
        doubtIf(helmet(2, 1, 50, ";drew b black;drew a white"), 2, false, 0, 1);
        edges.sentence(31, "-1: 1; 5; 6.");
        drawers("doubtIf", new TenthBean(), Check.legion(MEN), helmet(12, 6, 50, ";drew a white;drew h black"));
    }

    private void honest() {
        edges.sentence(32, "How likely an honest helmet gives what was drawn, likewise.");
        honest(helmet(5, 2, 100, ""), 1, 1);
        honest(helmet(3, 1, 100, ";drew a black"), 1, 3);
        honest(helmet(3, 1, 100, ";drew b white;drew a white;drew c black"), 1, 3);
        edges.sentence(32, "-1: 1 (no LEGION); 6.");
        TenthBean none = new TenthBean();
        check.refused("no LEGION", none, none.honest(true), -1, 1);
        TenthBean bare = Check.legion(MEN);
        check.refused("no helmet", bare, bare.honest(false), -1, 6);
    }

    // ---- promises 33 to 38

    private void gone() {
        edges.sentence(33, "GONE: how many sets.");
        check.due("asked first", earlier(3, ";gone 2").gone(), 3);
        check.due("none", earlier(3, ";gone 3;among a b 1").gone(), 0);
        check.due("of no men one", earlier(0, ";gone 0").gone(), 1);
        edges.sentence(33, "NONE: 1 (no LEGION); 6 (no gone told).");
        TenthBean none = new TenthBean();
        check.refused("no LEGION", none, none.gone(), -1, 1);
        TenthBean bare = earlier(3, "");
        check.refused("no gone told", bare, bare.gone(), -1, 6);
    }

    private void goneAt() {
        edges.sentence(34, "The i-th, by bits.");
        TenthBean x = earlier(8, ";gone 4");
        check.told("the first", x, x.goneAt(0), 15);
        check.told("the second", x, x.goneAt(1), 23);
        check.told("the last", x, x.goneAt(69), 240);
        check.due("nobody", earlier(8, ";gone 0").goneAt(0), 0);
        check.due("all", earlier(8, ";gone 8").goneAt(0), 255);
        int ahead = 0;
        for (int i = 0; i < 70; i++) {
            int set = x.goneAt(i);
            check.due("upwards", set > ahead, true);
            ahead = set;
        }
        edges.sentence(34, "NONE: 1 (no LEGION; i, too); 6.");
        for (int i : Edges.outside(69)) {
            check.refused("goneAt(" + i + ")", x, x.goneAt(i), -1, 1);
        }
        TenthBean one = earlier(8, ";gone 1");
        check.told("the last of eight", one, one.goneAt(7), 128);
        check.refused("no ninth", one, one.goneAt(8), -1, 1);
        TenthBean noSet = earlier(2, ";gone 2;among a b 1");
        check.refused("none fits", noSet, noSet.goneAt(0), -1, 1);
        TenthBean none = new TenthBean();
        check.refused("no LEGION", none, none.goneAt(0), -1, 1);
        TenthBean bare = earlier(3, "");
        check.refused("no gone told", bare, bare.goneAt(0), -1, 6);
    }

    private void goneOf() {
        edges.sentence(35, "In how many of them one is.");
        TenthBean x = earlier(8, ";gone 3;among a b 2");
        int[] want = {6, 6, 1, 1, 1, 1, 1, 1};
        for (int m = 0; m < 8; m++) {
            check.told("goneOf(" + m + ")", x, x.goneOf(m), want[m]);
        }
        check.told("asked again", x, x.goneOf(0), 6);
        check.told("and again", x, x.goneOf(7), 1);
        TenthBean noSet = earlier(2, ";gone 2;among a b 1");
        check.told("none fits", noSet, noSet.goneOf(1), 0);
        edges.sentence(35, "NONE: 1; 6.");
        for (int m : Edges.outside(7)) {
            check.refused("goneOf(" + m + ")", x, x.goneOf(m), -1, 1);
        }
        TenthBean none = new TenthBean();
        check.refused("no LEGION", none, none.goneOf(0), -1, 1);
        TenthBean bare = earlier(3, "");
        check.refused("no gone told", bare, bare.goneOf(2), -1, 6);
        check.refused("no man ahead of no gone", bare, bare.goneOf(3), -1, 1);
    }

    private void surelyGone() {
        edges.sentence(36, "Who is in all of them (0 if there are none), as bits.");
        check.due("all", earlier(8, ";gone 8").surelyGone(), 255);
        check.due("two", earlier(8, ";gone 3;among a h 2").surelyGone(), 129);
        check.due("nobody", earlier(8, ";gone 7").surelyGone(), 0);
        check.due("none fits", earlier(2, ";gone 2;among a b 1").surelyGone(), 0);
        check.due("no men", earlier(0, ";gone 0").surelyGone(), 0);
        edges.sentence(36, "NONE: 1 (no LEGION); 6.");
        TenthBean none = new TenthBean();
        check.refused("no LEGION", none, none.surelyGone(), -1, 1);
        TenthBean bare = earlier(3, "");
        check.refused("no gone told", bare, bare.surelyGone(), -1, 6);
    }

    private void ask() {
        edges.sentence(37, "ASK; -2 no set fits, no man.");
        check.due("no set fits", earlier(2, ";gone 2;among a b 1").ask(), -2);
        check.due("no man", earlier(0, ";gone 0").ask(), -2);
        check.due("one man", earlier(1, ";gone 0").ask(), 0);
        edges.sentence(37, "NONE: 1 (no LEGION); 6.");
        TenthBean none = new TenthBean();
        check.refused("no LEGION", none, none.ask(), -1, 1);
        TenthBean bare = earlier(3, "");
        check.refused("no gone told", bare, bare.ask(), -1, 6);
    }

    private void askLeaves() {
        edges.sentence(38, "How many are left at most then; -2 likewise.");
        check.due("of 70", earlier(8, ";gone 4").askLeaves(), 35);
        check.due("he isn't one", earlier(8, ";gone 1").askLeaves(), 7);
        check.due("he is one", earlier(8, ";gone 7").askLeaves(), 7);
        check.due("one set", earlier(8, ";gone 8").askLeaves(), 1);
        check.due("no set fits", earlier(2, ";gone 2;among a b 1").askLeaves(), -2);
        check.due("no man", earlier(0, ";gone 0").askLeaves(), -2);
        edges.sentence(38, "NONE: 1 (no LEGION); 6.");
        TenthBean none = new TenthBean();
        check.refused("no LEGION", none, none.askLeaves(), -1, 1);
        TenthBean bare = earlier(3, "");
        check.refused("no gone told", bare, bare.askLeaves(), -1, 6);
    }

    // ---- promises 39 to 41

    private void line() {
        edges.sentence(39, "What the one (or other, the other one) has by so much dread (0 .. 9) if each runs or stands.");
        TenthBean x = earlier(1, "");
        check.told("no dread", x, x.line(0, true, false, false), 3);
        check.told("most dread", x, x.line(9, true, false, false), -6);
        check.told("the other one stands", x, x.line(9, true, false, true), -4);
        check.told("the other one runs", x, x.line(9, false, true, true), -6);
        edges.sentence(39, "-100: 1 (no LEGION); 2.");
        TenthBean none = new TenthBean();
        check.refused("no LEGION", none, none.line(0, true, true, true), -100, 1);
        check.refused("no LEGION, bad too", none, none.line(10, false, false, false), -100, 1);
        for (int dread : Edges.outside(9)) {
            check.refused("line(" + dread + ")", x, x.line(dread, true, true, false), -100, 2);
            check.refused("line(" + dread + ")", x, x.line(dread, false, false, true), -100, 2);
        }
    }

    private void rests() {
        edges.sentence(40, "How many RESTS.");
        TenthBean x = earlier(1, "");
        check.told("no dread", x, x.rests(0), 2);
        check.told("the last with two", x, x.rests(7), 2);
        check.told("the first with one", x, x.rests(8), 1);
        check.told("most dread", x, x.rests(9), 1);
        edges.sentence(40, "NONE: 1 (no LEGION); 2.");
        TenthBean none = new TenthBean();
        check.refused("no LEGION", none, none.rests(0), -1, 1);
        check.refused("no LEGION, bad too", none, none.rests(-1), -1, 1);
        for (int dread : Edges.outside(9)) {
            check.refused("rests(" + dread + ")", x, x.rests(dread), -1, 2);
        }
    }

    /** Both stand by whatever dread, for 3 is less than 5: the first is that one, and there is one. */
    private void rest() {
        edges.sentence(41, "The first (both stand ahead, then the other one runs): 10 if the one runs, and 1 if the other one does; -2.");
        TenthBean x = earlier(1, "");
        check.told("no dread", x, x.rest(0), 0);
        check.told("most dread", x, x.rest(9), 0);
        edges.sentence(41, "NONE: likewise.");
        TenthBean none = new TenthBean();
        check.refused("no LEGION", none, none.rest(0), -1, 1);
        check.refused("no LEGION, bad too", none, none.rest(10), -1, 1);
        for (int dread : Edges.outside(9)) {
            check.refused("rest(" + dread + ")", x, x.rest(dread), -1, 2);
        }
    }

    // ---- promises 42 to 44

    private static int ask(TenthBean x, int which, int seed, int n) {
        return which == 0 ? x.wars(seed, n) : which == 1 ? x.warsLeft(seed, n) : x.warsOf(0, seed, n);
    }

    /** Refused for a SEED or a number of WARS that is none; the least and the most of both are not. */
    private void bounds(int which) {
        TenthBean none = new TenthBean();
        check.refused("no LEGION", none, ask(none, which, 0, 0), -1, 1);
        check.refused("no LEGION, bad too", none, ask(none, which, -1, 61), -1, 1);
        TenthBean x = earlier(8, "");
        for (int seed : Edges.outside(65536)) {
            check.refused("SEED " + seed, x, ask(x, which, seed, 0), -1, 2);
        }
        for (int n : Edges.outside(60)) {
            check.refused("n " + n, x, ask(x, which, 0, n), -1, 2);
        }
        for (int seed : new int[] {0, 65536}) {
            for (int n : new int[] {0, 60}) {
                check.due("SEED " + seed + ", n " + n, ask(x, which, seed, n) >= 0, true);
                check.due("not refused", x.trouble(), 0);
            }
        }
    }

    private void wars() {
        edges.sentence(42, "In how many of n WARS (0 .. 60) by a SEED (0 .. 65,536) it HOLDS.");
        TenthBean x = earlier(8, "");
        check.told("none", x, x.wars(0, 0), 0);
        check.told("the most", x, x.wars(65536, 60), 60);
        TenthBean y = Check.legion(Edges.head(6, 6, 0, 30) + ";ten t" + Edges.men('a', 8, "plain", "t", 7));
        check.told("seven there, one runs", y, y.wars(3, 1), 1);
        check.told("then too few", y, y.wars(3, 60), 1);
        edges.sentence(42, "NONE: 1 (no LEGION); 2.");
        bounds(0);
    }

    private void warsLeft() {
        edges.sentence(43, "Who is there behind them, as bits.");
        TenthBean x = earlier(8, "");
        for (int n = 0; n <= 8; n++) {
            check.told("one less", x, Integer.bitCount(x.warsLeft(7, n)), 8 - n);
        }
        check.told("all", x, x.warsLeft(7, 0), 255);
        check.told("nobody", x, x.warsLeft(7, 60), 0);
        TenthBean asked = earlier(3, "");
        check.told("asked first: by 74 mod 3 the last", asked, asked.warsLeft(0, 1), 3);
        edges.sentence(43, "NONE: 1 (no LEGION); 2.");
        bounds(1);
    }

    private void warsOf() {
        edges.sentence(44, "In which of them (1, 2, ..) one is drawn; 0 in none.");
        TenthBean x = Check.legion(Edges.head(0, 6, 0, 30) + ";ten t;ten u;ten v" + Edges.men('a', 8, "plain", "v", 7));
        int sum = 0;
        for (int m = 0; m < 8; m++) {
            int war = x.warsOf(m, 5, 60);
            check.due("of v each third", war % 3, 0);
            check.told("not yet", x, x.warsOf(m, 5, war - 1), 0);
            check.told("then", x, x.warsOf(m, 5, war), war);
            sum += war;
        }
        check.due("3, 6, .. 24", sum, 108);
        check.told("in no war", x, x.warsOf(0, 5, 0), 0);
        Edges.lotOf(x, 2, 0);
        check.told("gone ahead of them", x, x.warsOf(0, 5, 60), 0);
        edges.sentence(44, "NONE: 1; 2.");
        bounds(2);
        TenthBean y = earlier(8, "");
        for (int m : Edges.outside(7)) {
            check.refused("warsOf(" + m + ")", y, y.warsOf(m, 0, 0), -1, 1);
            check.refused("1 ahead of 2", y, y.warsOf(m, -1, 61), -1, 1);
        }
    }
}
