/** Terms II, BREAK and BRACE, promises 6 to 17: each sentence that names a boundary case. */
final class EdgesOfNow {
    private static final String CALM = Edges.head(0, 6, 0, 30) + ";ten t";
    private static final String TWO_TENS = Edges.head(0, 6, 2, 30) + ";ten t;ten u" + Edges.men('a', 3, "plain", "t", 0)
            + Edges.men('d', 2, "plain", "u", 0);

    private final Check check;
    private final Edges edges;

    EdgesOfNow(Check check, Edges edges) {
        this.check = check;
        this.edges = edges;
    }

    void run() {
        fear();
        runOf();
        holdsOf();
        lotOf();
        angerOf();
        breakOf();
        braceOf();
        man();
        ten();
        there();
        anger();
        mutiny();
        runs();
        holds();
        worst();
        breaks();
        brace();
        toHearten();
        fearFor();
    }

    private static TenthBean calm(int... nerves) {
        return Check.legion(CALM + Edges.nerves(nerves));
    }

    private static TenthBean holding(int holds, int... nerves) {
        return Check.legion(Edges.head(holds, 6, 0, 30) + ";ten t" + Edges.nerves(nerves));
    }

    // ---- Terms II

    private void fear() {
        edges.sentence(Edges.TERMS, "II. FEAR of one: fear told for each LOT drawn in his ten NOW since he was in it,");
        TenthBean x = Check.legion(TWO_TENS);
        check.told("no LOT yet", x, x.man(0, 3), 0);
        check.told("c", x, Edges.lotOf(x, 0, 2), 4);
        check.told("a", x, x.man(0, 3), 2);
        check.told("d of another ten", x, x.man(3, 3), 0);
        check.told("c who is gone", x, x.man(2, 3), 0);
        check.told("e", x, Edges.lotOf(x, 1, 1), 16);
        check.told("d", x, x.man(3, 3), 2);
        check.told("a as he was", x, x.man(0, 3), 2);
        check.due("move", x.move(3, 0), true);
        check.told("d in a ten that had a LOT without him", x, x.man(3, 3), 0);
        check.told("a", x, Edges.lotOf(x, 0, 0), 1);
        check.told("b by two", x, x.man(1, 3), 4);
        check.told("d by one", x, x.man(3, 3), 2);
        check.refused("nobody there", x, x.lot(1), -1, 6);
        check.due("and back", x.move(3, 1), true);
        check.told("nothing of what he knew there", x, x.man(3, 3), 0);
        TenthBean none = Check.legion(TWO_TENS.replace("fear 2", "fear 0"));
        Edges.lotOf(none, 0, 0);
        check.told("no fear told", none, none.man(1, 3), 0);
        edges.sentence(Edges.TERMS, "a veteran twice, a coward not.");
        TenthBean kinds = Check.legion(Edges.head(0, 6, 3, 30) + ";ten t" + Edges.men('a', 2, "veteran", "t", 1)
                + Edges.men('c', 1, "coward", "t", 1) + Edges.men('d', 1, "plain", "t", 1) + Edges.men('e', 1, "officer", "t", 1));
        Edges.lotOf(kinds, 0, 0);
        int[] want = {1, 7, 1, 4, 4};
        for (int m = 0; m < 5; m++) {
            check.told("NERVE of " + m, kinds, kinds.man(m, 3), want[m]);
        }
        edges.sentence(Edges.TERMS, "NERVE: as told and his FEAR.");
        TenthBean most = Check.legion(Edges.head(0, 6, 4, 30) + ";ten t" + Edges.men('a', 7, "plain", "t", 0)
                + Edges.men('h', 1, "veteran", "t", 7));
        for (int i = 0; i < 7; i++) {
            check.told("NERVE behind " + i, most, most.man(7, 3), 7 + 8 * i);
            check.told("by numbers", most, Edges.lotOf(most, 0, 0), 1 << i);
        }
        check.told("the last", most, most.man(7, 3), 63);
        check.told("as told", most, most.man(7, 2), 7);
    }

    private void runOf() {
        edges.sentence(Edges.TERMS, "RUN from a START (some of those who are there):");
        TenthBean eight = calm(7, 7, 7, 7, 7, 7, 7, 7);
        check.told("nobody", eight, eight.runs(0), 0);
        check.told("one", eight, eight.runs(128), 128);
        check.told("all", eight, eight.runs(255), 255);
        edges.sentence(Edges.TERMS, "these run; then, as long as it makes more:");
        TenthBean chain = calm(7, 1, 2, 3, 4, 5, 6, 7);
        check.told("one by one, all", chain, chain.runs(1), 255);
        TenthBean stopped = calm(7, 1, 2, 3, 4, 5, 7, 7);
        check.told("up to six", stopped, stopped.runs(1), 63);
        TenthBean turned = calm(7, 6, 5, 4, 3, 2, 1, 7);
        check.told("the last first", turned, turned.runs(128), 255);
        edges.sentence(Edges.TERMS, "one who is there, isn't braced, and whose NERVE is no more than how many others run"
                + " (an officer counts as two; 0 is no more than nobody) runs too.");
        TenthBean two = calm(2, 7, 7);
        check.told("one runs: two is more", two, two.runs(2), 2);
        check.told("two run: two is no more", two, two.runs(6), 7);
        check.due("he isn't one of the others", calm(1).runs(0), 0);
        check.due("0 and nobody", calm(0).runs(0), 1);
        TenthBean pair = calm(0, 0);
        pair.braces(0, true);
        check.told("braced he stands", pair, pair.runs(0), 2);
        check.told("in the START he runs", pair, pair.runs(1), 3);
        TenthBean one = calm(0, 1);
        check.told("by the one", one, one.runs(0), 3);
        check.told("he goes", one, Edges.lotOf(one, 0, 0), 1);
        check.told("he runs no more, nor the other", one, one.runs(0), 0);
        TenthBean officer = Check.legion(CALM + ";man a officer in t nerve 7;man b plain in t nerve 2;man c plain in t nerve 4");
        check.told("as two", officer, officer.runs(1), 3);
        check.told("and one", officer, officer.runs(5), 7);
        TenthBean behind = Check.legion(CALM + ";man a plain in t nerve 7;man b officer in t nerve 1;man c plain in t nerve 3;man d plain in t nerve 5");
        check.told("an officer who runs too", behind, behind.runs(1), 7);
        TenthBean alone = Check.legion(CALM + ";man a officer in t nerve 2");
        check.told("nor is an officer one of the others", alone, alone.runs(0), 0);
    }

    private void holdsOf() {
        edges.sentence(Edges.TERMS, "It HOLDS if as many stand as holds told, or more.");
        TenthBean x = holding(2, 7, 7, 7);
        check.told("three", x, x.holds(0), 1);
        check.told("two", x, x.holds(1), 1);
        check.told("one", x, x.holds(3), 0);
        check.told("none", x, x.holds(7), 0);
        TenthBean none = holding(0, 7, 7);
        check.told("0: none need stand", none, none.holds(3), 1);
        TenthBean eight = holding(8, 7, 7, 7, 7, 7, 7, 7, 7);
        check.told("8 of eight", eight, eight.holds(0), 1);
        check.told("8 of eight but one", eight, eight.holds(16), 0);
        TenthBean seven = holding(8, 7, 7, 7, 7, 7, 7, 7);
        check.told("8 of seven", seven, seven.holds(0), 0);
        TenthBean gone = holding(2, 7, 7);
        check.told("two there", gone, gone.holds(0), 1);
        gone.lot(0);
        check.told("who is gone doesn't stand", gone, gone.holds(0), 0);
    }

    private void lotOf() {
        edges.sentence(Edges.TERMS, "A LOT of a ten: as many of its men who are there as one in lots (downwards; 1 at least) draw black beans:");
        int[][] want = {{0, 1, 1, 1, 2, 2, 3, 3, 4}, {0, 1, 1, 1, 1, 1, 2, 2, 2}, {0, 1, 1, 1, 1, 1, 1, 1, 2},
            {0, 1, 1, 1, 1, 1, 1, 1, 1}, {0, 1, 1, 1, 1, 1, 1, 1, 1}};
        for (int lots = 2; lots <= 6; lots++) {
            for (int men = 0; men <= 8; men++) {
                TenthBean x = Check.legion(Edges.head(0, lots, 0, 30) + ";ten t" + Edges.men('a', men, "plain", "t", 0));
                int beans = want[lots - 2][men];
                check.told("one in " + lots + " of " + men, x, x.ten(0, 1), beans);
                check.due("so many are gone", men == 0 ? 0 : Integer.bitCount(x.lot(0)), beans);
                check.due("the rest are there", Integer.bitCount(x.there()), men - beans);
            }
        }
        TenthBean y = Check.legion(Edges.head(0, 2, 0, 30) + ";ten t;ten u" + Edges.men('a', 4, "plain", "t", 0));
        y.lot(0);
        check.told("of two who are there yet", y, y.ten(0, 1), 1);
        y.move(Check.led(y, 0) == 0 ? 1 : 0, 1);
        check.told("of one in each", y, y.ten(0, 1) * 10 + y.ten(1, 1), 11);
        edges.sentence(Edges.TERMS, "all sets of so many are as likely;");
        TenthBean z = Check.legion(Edges.head(0, 2, 0, 30) + ";ten t" + Edges.men('a', 8, "plain", "t", 0));
        check.told("four of eight", z, z.sets(0), 70);
        for (int m = 0; m < 8; m++) {
            check.odds("drawn " + m, z.drawn(m, false), z.drawn(m, true), 1, 2);
        }
        edges.sentence(Edges.TERMS, "these are gone; FEAR of the others as said;");
        TenthBean w = Check.legion(TWO_TENS.replace("lots 6", "lots 2"));
        check.told("b", w, Edges.lotOf(w, 0, 1), 2);
        check.told("b is gone", w, w.there(), 29);
        check.told("out of his ten", w, w.ten(0, 0), 5);
        int[] nerves = {2, 0, 2, 0, 0};
        for (int m = 0; m < 5; m++) {
            check.told("NERVE " + m, w, w.man(m, 3), nerves[m]);
        }
    }

    private void angerOf() {
        edges.sentence(Edges.TERMS, "ANGER of each who is there: one more for each friend who drew a black one.");
        // by SEED 0 of four of t: c (74 mod 4), then d (5624 mod 3)
        TenthBean x = Check.legion(Edges.head(0, 2, 0, 30) + ";ten t;ten u" + Edges.men('a', 4, "plain", "t", 0)
                + Edges.men('e', 2, "plain", "u", 0) + ";friend a c;friend d a;friend b a;friend e c;friend c d");
        check.told("c and d", x, x.lot(0), 12);
        int[] want = {2, 0, 0, 0, 1, 0};
        for (int m = 0; m < 6; m++) {
            check.told("ANGER " + m, x, x.man(m, 5), want[m]);
        }
        check.told("b", x, Edges.lotOf(x, 0, 1), 2);
        check.told("one more", x, x.man(0, 5), 3);
        check.told("who is gone is as he was", x, x.man(1, 5), 0);
        check.due("moved", x.move(0, 1), true);
        check.told("moved he is as angry", x, x.man(0, 5), 3);
        edges.sentence(Edges.TERMS, "MUTINY: if ANGER of all who are there is as much as told, or more.");
        String text = Edges.head(0, 6, 0, 2) + ";ten t" + Edges.men('a', 4, "plain", "t", 0) + ";friend a b;friend a c;friend a d";
        int[] mutiny = {1, 1, 1, 0};
        for (int told = 1; told <= 4; told++) {
            TenthBean y = Check.legion(text.replace("mutiny 2", "mutiny " + told));
            check.told("none yet", y, y.mutiny(), 0);
            check.told("a", y, Edges.lotOf(y, 0, 0), 1);
            check.told("ANGER of three", y, y.anger(), 3);
            check.told("MUTINY by " + told, y, y.mutiny(), mutiny[told - 1]);
        }
        TenthBean calmer = Check.legion(text.replace("mutiny 2", "mutiny 4").replace(";friend a c;friend a d", ""));
        Edges.lotOf(calmer, 0, 0);
        check.told("b is angry", calmer, calmer.anger(), 1);
        Edges.lotOf(calmer, 0, 0);
        check.told("b is gone, with his ANGER", calmer, calmer.anger(), 0);
    }

    private void breakOf() {
        edges.sentence(Edges.TERMS, "BREAK: the fewest who, as a START, make it not HOLD: of like ones the least bits.");
        check.due("one of three alike", holding(3, 7, 7, 7).breaks(), 1);
        check.due("two of four alike", holding(3, 7, 7, 7, 7).breaks(), 3);
        check.due("all of two", holding(1, 7, 7).breaks(), 3);
        check.due("nobody need start", holding(1, 0).breaks(), 0);
        check.due("nor of no men", holding(1).breaks(), 0);
        TenthBean x = Check.legion(Edges.head(4, 6, 0, 30) + ";ten t" + Edges.nerves(7, 7, 7) + ";man d officer in t nerve 7;man e plain in t nerve 2");
        check.told("one of more bits ahead of two of less", x, x.breaks(), 8);
        TenthBean braced = holding(2, 7, 7);
        braced.braces(0, true);
        braced.braces(1, true);
        check.told("one who is braced may start", braced, braced.breaks(), 1);
        TenthBean firm = holding(1, 7, 7, 7, 7, 7, 7, 7, 7);
        for (int m = 0; m < 8; m++) {
            firm.braces(m, true);
        }
        check.told("all eight", firm, firm.breaks(), 255);
        TenthBean gone = holding(2, 7, 7, 7);
        Edges.lotOf(gone, 0, 0);
        check.told("one who is gone may not", gone, gone.breaks(), 2);
    }

    private void braceOf() {
        edges.sentence(Edges.TERMS, "BRACE for a START: the fewest more men to be braced (in the START or not; who is in it runs)"
                + " so that it HOLDS: of like ones the least bits.");
        check.due("none, for it holds", holding(2, 7, 7, 7).brace(1), 0);
        check.due("one of two alike", holding(2, 0, 0, 7).brace(0), 1);
        check.due("two of three alike", holding(2, 0, 0, 0).brace(0), 3);
        check.due("all eight", holding(8, 0, 0, 0, 0, 0, 0, 0, 0).brace(0), 255);
        check.due("one of more bits ahead of two of less", holding(2, 7, 2, 2, 1).brace(1), 8);
        check.due("braced, who is in the START runs", holding(2, 7, 7).brace(1), -2);
        TenthBean more = holding(2, 0, 0, 0);
        more.braces(0, true);
        check.told("one more", more, more.brace(0), 2);
        check.told("but he starts", more, more.brace(1), 6);
        TenthBean gone = holding(1, 0, 0);
        Edges.lotOf(gone, 0, 0);
        check.told("not who is gone", gone, gone.brace(0), 2);
    }

    // ---- promises 6 to 10

    private void man() {
        edges.sentence(6, "Of a man 0 KIND (0 plain, 1 veteran, 2 coward, 3 officer), 1 his ten NOW, 2 nerve as told, 3 NERVE,"
                + " 4 friends, as bits, 5 ANGER, 6 1 if he is there, 7 1 if he is braced");
        TenthBean x = Check.legion(Edges.head(0, 6, 4, 30) + ";ten t;ten u;ten v" + Edges.men('a', 7, "plain", "t", 0)
                + ";man h officer in v nerve 7;friend h a;friend b h");
        int[] last = {3, 2, 7, 7, 3, 0, 1, 0};
        int[] first = {0, 0, 0, 0, 128, 0, 1, 0};
        for (int what = 0; what < 8; what++) {
            check.told("the last, " + what, x, x.man(7, what), last[what]);
            check.told("the first, " + what, x, x.man(0, what), first[what]);
        }
        edges.sentence(6, "(1, 3, 5, 7 as they were, if he isn't there).");
        TenthBean y = Check.legion(Edges.head(0, 6, 2, 30) + ";ten t;ten u" + Edges.men('a', 5, "plain", "t", 1) + ";friend a b;friend a c");
        y.braces(0, true);
        y.move(0, 1);
        y.move(0, 0);
        check.told("b", y, Edges.lotOf(y, 0, 1), 2);
        check.told("a", y, Edges.lotOf(y, 0, 0), 1);
        check.told("c", y, Edges.lotOf(y, 0, 0), 4);
        int[] gone = {0, 0, 1, 3, 6, 1, 0, 1};
        int[] moved = {0, 0, 1, 5, 1, 1, 0, 0};
        for (int what = 0; what < 8; what++) {
            check.told("a who is gone, " + what, y, y.man(0, what), gone[what]);
            check.told("c who is gone, " + what, y, y.man(2, what), moved[what]);
        }
        edges.sentence(6, "NONE: 1.");
        for (int m : Edges.outside(7)) {
            check.refused("man(" + m + ")", x, x.man(m, 0), -1, 1);
        }
        for (int what : Edges.outside(7)) {
            check.refused("man(0, " + what + ")", x, x.man(0, what), -1, 1);
        }
        TenthBean five = calm(0, 0, 0, 0, 0);
        check.refused("the sixth of five", five, five.man(5, 0), -1, 1);
        TenthBean none = new TenthBean();
        check.refused("no LEGION", none, none.man(0, 6), -1, 1);
        TenthBean empty = calm();
        check.refused("no men", empty, empty.man(0, 0), -1, 1);
    }

    private void ten() {
        edges.sentence(7, "Of a ten 0 its men who are there, as bits, 1 black beans of a LOT of it NOW (0 if nobody is there), 2 LOTS drawn of it.");
        TenthBean x = Check.legion(Edges.head(0, 3, 0, 30) + ";ten t;ten u;ten v" + Edges.men('a', 6, "plain", "t", 0) + Edges.men('g', 1, "plain", "v", 0));
        int[][] want = {{63, 2, 0}, {0, 0, 0}, {64, 1, 0}};
        tens(x, want);
        check.told("c and f: 74 mod 6, 5624 mod 5", x, x.lot(0), 36);
        check.told("g", x, x.lot(2), 64);
        check.refused("nobody", x, x.lot(2), -1, 6);
        x.move(0, 1);
        tens(x, new int[][] {{26, 1, 1}, {1, 1, 0}, {0, 0, 1}});
        x.lot(1);
        tens(x, new int[][] {{26, 1, 1}, {0, 0, 1}, {0, 0, 1}});
        edges.sentence(7, "NONE: 1.");
        for (int t : Edges.outside(2)) {
            check.refused("ten(" + t + ")", x, x.ten(t, 0), -1, 1);
        }
        for (int what : Edges.outside(2)) {
            check.refused("ten(0, " + what + ")", x, x.ten(0, what), -1, 1);
        }
        TenthBean one = calm(0);
        check.refused("a second of one", one, one.ten(1, 0), -1, 1);
        TenthBean none = new TenthBean();
        check.refused("no LEGION", none, none.ten(0, 0), -1, 1);
    }

    private void tens(TenthBean x, int[][] want) {
        for (int t = 0; t < want.length; t++) {
            for (int what = 0; what < 3; what++) {
                check.told("ten(" + t + ", " + what + ")", x, x.ten(t, what), want[t][what]);
            }
        }
    }

    private void there() {
        edges.sentence(8, "Who is there, as bits.");
        check.due("no men", calm().there(), 0);
        TenthBean x = calm(0, 0, 0, 0, 0, 0, 0, 0);
        int left = 255;
        for (int i = 0; i <= 8; i++) {
            check.told("behind " + i, x, x.there(), left);
            left &= left - 1;
            Edges.lotOf(x, 0, 0);
        }
        edges.sentence(8, "NONE: 1 (no LEGION).");
        TenthBean none = new TenthBean();
        check.refused("there", none, none.there(), -1, 1);
    }

    private void anger() {
        edges.sentence(9, "ANGER of all who are there.");
        TenthBean x = Check.legion(CALM + Edges.men('a', 5, "plain", "t", 0) + ";friend a b;friend a c;friend b c;friend c d");
        check.told("none", x, x.anger(), 0);
        Edges.lotOf(x, 0, 0);
        check.told("b and c", x, x.anger(), 2);
        Edges.lotOf(x, 0, 0);
        check.told("c by two", x, x.anger(), 2);
        Edges.lotOf(x, 0, 0);
        check.told("d alone", x, x.anger(), 1);
        Edges.lotOf(x, 0, 0);
        check.told("e has no friends", x, x.anger(), 0);
        Edges.lotOf(x, 0, 0);
        check.told("nobody is there", x, x.anger(), 0);
        edges.sentence(9, "NONE: 1 (no LEGION).");
        TenthBean none = new TenthBean();
        check.refused("anger", none, none.anger(), -1, 1);
    }

    private void mutiny() {
        edges.sentence(10, "1 if there is MUTINY, else 0.");
        String text = Edges.head(0, 6, 0, 1) + ";ten t" + Edges.men('a', 3, "plain", "t", 0);
        TenthBean x = Check.legion(text);
        Edges.lotOf(x, 0, 0);
        check.told("no friends, none", x, x.mutiny(), 0);
        TenthBean y = Check.legion(text + ";friend a b");
        check.told("none yet", y, y.mutiny(), 0);
        Edges.lotOf(y, 0, 0);
        check.told("one is enough", y, y.mutiny(), 1);
        check.due("undone", y.undo(), true);
        check.told("none again", y, y.mutiny(), 0);
        TenthBean empty = Check.legion(Edges.head(0, 6, 0, 1) + ";ten t");
        check.told("nobody", empty, empty.mutiny(), 0);
        edges.sentence(10, "NONE: 1 (no LEGION).");
        TenthBean none = new TenthBean();
        check.refused("mutiny", none, none.mutiny(), -1, 1);
    }

    // ---- promises 11 to 17

    /** Sets with one who isn't there, of three of four men. */
    private static int[] badStarts() {
        return new int[] {1, 3, 15, 16, 30, 256, 1 << 30, -1, -2, Integer.MIN_VALUE, Integer.MAX_VALUE};
    }

    /** Four men, of whom the first is gone. */
    private static TenthBean three() {
        TenthBean x = holding(1, 7, 7, 7, 7);
        Edges.lotOf(x, 0, 0);
        return x;
    }

    private void runs() {
        edges.sentence(11, "RUN: all who run, as bits.");
        TenthBean x = three();
        check.told("none", x, x.runs(0), 0);
        check.told("all", x, x.runs(14), 14);
        check.due("no men", calm().runs(0), 0);
        edges.sentence(11, "NONE: 1 (no LEGION);");
        TenthBean none = new TenthBean();
        check.refused("runs", none, none.runs(0), -1, 1);
        check.refused("runs, bad too", none, none.runs(1), -1, 1);
        edges.sentence(11, "2 (one of START isn't there).");
        for (int start : badStarts()) {
            check.refused("runs(" + start + ")", x, x.runs(start), -1, 2);
        }
        TenthBean empty = calm();
        check.refused("no men", empty, empty.runs(1), -1, 2);
    }

    private void holds() {
        edges.sentence(12, "1 if it HOLDS, else 0.");
        TenthBean x = three();
        check.told("one stands", x, x.holds(6), 1);
        check.told("none stands", x, x.holds(14), 0);
        edges.sentence(12, "NONE: likewise.");
        TenthBean none = new TenthBean();
        check.refused("holds", none, none.holds(0), -1, 1);
        check.refused("holds, bad too", none, none.holds(-1), -1, 1);
        for (int start : badStarts()) {
            check.refused("holds(" + start + ")", x, x.holds(start), -1, 2);
        }
    }

    private void worst() {
        edges.sentence(13, "The man by whom alone, as a START, most run, the first such;");
        check.due("all alike", three().worst(), 1);
        check.due("the last", calm(7, 1, 2, 0).worst(), 0);
        check.due("one by whom two run", calm(7, 7, 1).worst(), 0);
        TenthBean x = Check.legion(CALM + Edges.nerves(7, 2) + ";man c officer in t nerve 7;man d officer in t nerve 7");
        check.told("the first officer", x, x.worst(), 2);
        edges.sentence(13, "-2 nobody is there.");
        TenthBean gone = calm(7);
        check.told("one", gone, gone.worst(), 0);
        gone.lot(0);
        check.told("he is gone", gone, gone.worst(), -2);
        check.due("no men", calm().worst(), -2);
        edges.sentence(13, "NONE: 1 (no LEGION).");
        TenthBean none = new TenthBean();
        check.refused("worst", none, none.worst(), -1, 1);
    }

    private void breaks() {
        edges.sentence(14, "BREAK, as bits; -2 by none.");
        check.due("seven, and the eighth by them", holding(1, 7, 7, 7, 7, 7, 7, 7, 7).breaks(), 127);
        check.due("0 told", holding(0, 7, 7).breaks(), -2);
        check.due("0 told, all run", holding(0, 0, 0).breaks(), -2);
        check.due("0 told, no men", holding(0).breaks(), -2);
        edges.sentence(14, "NONE: 1 (no LEGION).");
        TenthBean none = new TenthBean();
        check.refused("breaks", none, none.breaks(), -1, 1);
    }

    private void brace() {
        edges.sentence(15, "BRACE, as bits; -2 it can't be.");
        TenthBean x = three();
        check.told("none needed", x, x.brace(6), 0);
        check.told("all start", x, x.brace(14), -2);
        check.due("too few", holding(3, 7, 7).brace(0), -2);
        check.due("no men", holding(1).brace(0), -2);
        check.due("no men, 0 told", holding(0).brace(0), 0);
        edges.sentence(15, "NONE: 1 (no LEGION); 2.");
        TenthBean none = new TenthBean();
        check.refused("brace", none, none.brace(0), -1, 1);
        check.refused("brace, bad too", none, none.brace(1), -1, 1);
        for (int start : badStarts()) {
            check.refused("brace(" + start + ")", x, x.brace(start), -1, 2);
        }
    }

    /** No two make it like few: of two who do, one alone keeps the other from running or runs with him. */
    private void toHearten() {
        edges.sentence(16, "The man who, had he one NERVE more, makes fewest run of a START, the first such; -2 nobody makes it fewer.");
        check.due("the first of a chain", calm(1, 2, 3, 7).toHearten(8), 0);
        check.due("the last of a chain", calm(7, 3, 2, 1).toHearten(1), 3);
        check.due("by one NERVE he stands", calm(7, 1).toHearten(1), 1);
        check.due("one isn't enough", calm(7, 0).toHearten(1), -2);
        check.due("0, and nobody else", calm(0).toHearten(0), 0);
        check.due("who starts runs", calm(0).toHearten(1), -2);
        check.due("nobody runs", calm(7, 7).toHearten(0), -2);
        check.due("no men", calm().toHearten(0), -2);
        TenthBean braced = calm(7, 1);
        braced.braces(1, true);
        check.told("who is braced stands", braced, braced.toHearten(1), -2);
        edges.sentence(16, "NONE: 1 (no LEGION); 2.");
        TenthBean none = new TenthBean();
        check.refused("toHearten", none, none.toHearten(0), -1, 1);
        check.refused("toHearten, bad too", none, none.toHearten(2), -1, 1);
        TenthBean x = three();
        for (int start : badStarts()) {
            check.refused("toHearten(" + start + ")", x, x.toHearten(start), -1, 2);
        }
    }

    private void fearFor() {
        edges.sentence(17, "The least fear (0 .. 9), in place of the one told, by which it HOLDS for a START; -2 by none.");
        String text = Edges.head(1, 6, 4, 30) + ";ten t;ten u" + Edges.men('a', 2, "plain", "t", 0) + Edges.men('c', 4, "officer", "u", 7)
                + ";man g plain in u nerve 7";
        TenthBean x = Check.legion(text);
        Edges.lotOf(x, 0, 0);
        check.told("g stands", x, x.fearFor(0), 0);
        check.told("two run, less than told", x, x.fearFor(68), 0);
        x = Check.legion(text.replace("holds 1", "holds 5"));
        Edges.lotOf(x, 0, 0);
        check.told("0 and nobody", x, x.fearFor(0), 0);
        check.told("one runs", x, x.fearFor(64), 2);
        check.told("as two", x, x.fearFor(4), 3);
        x = Check.legion(text.replace("holds 1", "holds 2"));
        Edges.lotOf(x, 0, 0);
        check.told("eight", x, x.fearFor(60), -2);
        x.braces(6, true);
        check.told("eight, but g is braced: the most", x, x.fearFor(60), 9);
        x = Check.legion(text);
        Edges.lotOf(x, 0, 0);
        check.told("nine: it would be ten", x, x.fearFor(124), -2);
        TenthBean calm = holding(1, 0);
        check.told("no LOT, so no fear helps", calm, calm.fearFor(0), -2);
        edges.sentence(17, "NONE: 1 (no LEGION); 2.");
        TenthBean none = new TenthBean();
        check.refused("fearFor", none, none.fearFor(0), -1, 1);
        check.refused("fearFor, bad too", none, none.fearFor(-1), -1, 1);
        TenthBean three = three();
        for (int start : badStarts()) {
            check.refused("fearFor(" + start + ")", three, three.fearFor(start), -1, 2);
        }
    }
}
