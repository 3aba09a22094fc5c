/** Terms III from GOOD to TENS, promises 18 to 28: each sentence that names a boundary case. */
final class EdgesOfLots {
    /**
     * START {}: if no LOT is drawn all run. The men of a ten of which a LOT was drawn stand: MUTINY by a friend's black
     * bean spoils 3 of 5 LOTS of t, 1 of 3 of u, 10 of 15 of both.
     */
    private static final String UNLIKE = Edges.head(1, 6, 4, 1) + ";ten t;ten u" + Edges.men('a', 5, "plain", "t", 0)
            + Edges.men('f', 3, "veteran", "u", 0) + ";friend a h;friend b c";

    private final Check check;
    private final Edges edges;

    EdgesOfLots(Check check, Edges edges) {
        this.check = check;
        this.edges = edges;
    }

    void run() {
        fromNow();
        goodOf();
        orderOf();
        tensOf();
        sets();
        drawn();
        holdsAfter();
        mutinyAfter();
        runsAfter();
        worstSet();
        order();
        orderOdds();
        friends();
        newTen();
        friendsNow();
    }

    private static String legion(int lots, int men) {
        return Edges.head(0, lots, 0, 30) + ";ten t" + Edges.men('a', men, "plain", "t", 7);
    }

    /** Two of ten t, one of them gone, and nobody of ten u. */
    private static TenthBean twoTens() {
        TenthBean x = Check.legion(Edges.head(1, 2, 1, 30) + ";ten t;ten u" + Edges.men('a', 2, "plain", "t", 7) + Edges.men('c', 1, "plain", "u", 7));
        Edges.lotOf(x, 1, 0);
        Edges.lotOf(x, 0, 0);
        return x;
    }

    // ---- Terms III

    private void fromNow() {
        edges.sentence(Edges.TERMS, "III. From NOW.");
        TenthBean x = Edges.used();
        x.seed(4711);
        int[] ahead = Edges.state(x);
        for (int k = 0; k < 3; k++) {
            askAll(x, k);
        }
        int[] behind = Edges.state(x);
        for (int i = 0; i < ahead.length; i++) {
            check.due("as it was, " + i, behind[i], ahead[i]);
        }
        check.due("undone", x.undo(), true);
        check.told("ben is back", x, x.man(1, 1), 0);
    }

    private static void askAll(TenthBean x, int k) {
        x.man(k, 3);
        x.ten(k, 1);
        x.mutiny();
        x.runs(k);
        x.holds(k);
        x.breaks();
        x.brace(k);
        x.toHearten(k);
        x.fearFor(k);
        x.sets(k);
        x.drawn(k, true);
        x.holdsAfter(k, k, true);
        x.mutinyAfter(k, true);
        x.runsAfter(k, k, true);
        x.worstSet(k, k);
        x.order(k);
        x.orderOdds(k, true);
        x.friends();
        x.newTen(k);
        x.friendsNow();
        x.doubt(true);
        x.next(k, true);
        x.doubtIf(k, true, true);
        x.honest(true);
        x.goneAt(k);
        x.goneOf(k);
        x.surelyGone();
        x.ask();
        x.askLeaves();
        x.line(k, true, true, true);
        x.rests(k);
        x.rest(k);
        x.wars(k, 60);
        x.warsLeft(k, 60);
        x.warsOf(k, k, 60);
    }

    private void goodOf() {
        edges.sentence(Edges.TERMS, "GOOD: HOLDS for a START (of those of it who are still there) and no MUTINY, behind all LOTS.");
        String text = Edges.head(1, 6, 0, 30) + ";ten t" + Edges.men('a', 2, "plain", "t", 1);
        TenthBean x = Check.legion(text);
        check.told("a starts, b runs too: by a LOT one of them may stand", x, x.order(1), 1);
        check.odds("a is gone", x.orderOdds(1, false), x.orderOdds(1, true), 1, 2);
        check.told("both start", x, x.order(3), 0);
        check.odds("never", x.orderOdds(3, false), x.orderOdds(3, true), 0, 1);
        for (int mutiny = 1; mutiny <= 2; mutiny++) {
            TenthBean y = Check.legion(text.replace("mutiny 30", "mutiny " + mutiny) + ";friend a b");
            check.told("MUTINY by " + mutiny, y, y.order(1), mutiny == 1 ? 0 : 1);
        }
        // a must go, for he counts as two, and one of u, for the other fears then; b is angry about a till he goes too
        TenthBean z = Check.legion(Edges.head(1, 2, 2, 1) + ";ten t;ten u;man a officer in t nerve 0" + Edges.men('b', 2, "plain", "u", 0)
                + ";friend a b");
        check.told("behind all LOTS, not between them", z, z.order(0), 3);
        check.odds("b goes too", z.orderOdds(0, false), z.orderOdds(0, true), 1, 2);
    }

    private void orderOf() {
        edges.sentence(Edges.TERMS, "ORDER for a START: of all sets of tens (a LOT of each, by numbers; none for {}) that by which GOOD is likeliest:"
                + " of like ones the fewest, of these the least bits.");
        TenthBean x = Check.legion(UNLIKE);
        check.told("2 of 3, ahead of 2 of 5 and 5 of 15", x, x.order(0), 2);
        check.odds("in lowest terms", x.orderOdds(0, false), x.orderOdds(0, true), 2, 3);
        TenthBean calm = Check.legion(UNLIKE.replace("mutiny 1", "mutiny 2"));
        check.told("the least bits of two alike", calm, calm.order(0), 1);
        check.odds("surely", calm.orderOdds(0, false), calm.orderOdds(0, true), 1, 1);
        TenthBean all = Check.legion(legion(2, 8));
        check.told("{} ahead of all alike", all, all.order(0), 0);
        TenthBean never = Check.legion(UNLIKE.replace("holds 1", "holds 8"));
        check.told("{} if it is never GOOD", never, never.order(0), 0);
        check.odds("never", never.orderOdds(0, false), never.orderOdds(0, true), 0, 1);
        // both of t and u leave one who stands, z alone leaves two
        TenthBean third = Check.legion(Edges.head(2, 6, 4, 30) + ";ten t;ten u;ten z" + Edges.men('a', 2, "plain", "t", 0)
                + Edges.men('c', 2, "plain", "u", 0) + Edges.men('e', 3, "veteran", "z", 0));
        check.told("one of more bits ahead of two of less", third, third.order(0), 4);
        // one each of three tens must go
        TenthBean three = Check.legion(Edges.head(3, 2, 4, 30) + ";ten t;ten u;ten v" + Edges.men('a', 2, "plain", "t", 0)
                + Edges.men('c', 2, "plain", "u", 0) + Edges.men('e', 2, "plain", "v", 0));
        check.told("all three", three, three.order(0), 7);
        check.odds("eight ways", three.orderOdds(0, false), three.orderOdds(0, true), 1, 1);
        TenthBean empty = twoTens();
        check.told("a ten of nobody adds nothing", empty, empty.order(0), 0);
        check.told("nor of like ones", empty, empty.order(2), 0);
    }

    private void tens(String name, TenthBean x, int friends, int... want) {
        check.told(name + ": friends", x, x.friends(), friends);
        for (int m = 0; m < want.length; m++) {
            if (want[m] >= 0) {
                check.told(name + ": newTen(" + m + ")", x, x.newTen(m), want[m]);
            }
        }
    }

    private static TenthBean inTens(int tens, int men, String friends) {
        return Check.legion(Edges.head(0, 6, 0, 30) + ";ten t" + (tens > 1 ? ";ten u" : "") + (tens > 2 ? ";ten v" : "")
                + Edges.men('a', men, "plain", "t", 0) + friends);
    }

    private void tensOf() {
        edges.sentence(Edges.TERMS, "TENS: all who are there anew to tens, in each no more than as many tens as there are make it (men by tens, upwards):");
        tens("8 to 1", inTens(1, 8, ""), 0, 0, 0, 0, 0, 0, 0, 0, 0);
        tens("8 to 2", inTens(2, 8, ""), 0, 0, 0, 0, 0, 1, 1, 1, 1);
        tens("8 to 3", inTens(3, 8, ""), 0, 0, 0, 0, 1, 1, 1, 2, 2);
        tens("7 to 3", inTens(3, 7, ""), 0, 0, 0, 0, 1, 1, 1, 2);
        tens("6 to 3", inTens(3, 6, ""), 0, 0, 0, 1, 1, 2, 2);
        tens("4 to 3", inTens(3, 4, ""), 0, 0, 0, 1, 1);
        tens("3 to 3", inTens(3, 3, ""), 0, 0, 1, 2);
        tens("2 to 3", inTens(3, 2, ""), 0, 0, 1);
        tens("1 to 3", inTens(3, 1, ""), 0, 0);
        tens("none to 3", inTens(3, 0, ""), 0);
        TenthBean x = inTens(2, 5, "");
        tens("5 to 2", x, 0, 0, 0, 0, 1, 1);
        Edges.lotOf(x, 0, 1);
        tens("4 who are there to 2", x, 0, 0, -1, 0, 1, 1);
        x.move(0, 1);
        tens("anew", x, 0, 0, -1, 0, 1, 1);
        edges.sentence(Edges.TERMS, "by which fewest friends are in one ten: of like ones the first by men's tens.");
        tens("he can't be alone", inTens(2, 4, ";friend a b;friend a c;friend a d"), 1, 0, 0, 1, 1);
        tens("he can be", inTens(2, 3, ";friend a b;friend a c"), 0, 0, 1, 1);
        tens("the last to the first", inTens(2, 4, ";friend a b;friend b d;friend c d"), 0, 0, 1, 1, 0);
        tens("the first of those alike", inTens(2, 4, ";friend a b"), 0, 0, 1, 0, 1);
        tens("all twos", inTens(2, 4, ";friend a b;friend b c;friend c d;friend d a;friend a c;friend b d"), 2, 0, 0, 1, 1);
        tens("eight in one ten", inTens(1, 8, ";friend a b;friend b c;friend c d;friend d e;friend e f;friend f g;friend g h;friend h a"), 8, 0, 0);
        TenthBean gone = inTens(2, 4, ";friend a b;friend a c;friend a d");
        Edges.lotOf(gone, 0, 0);
        tens("of who is there", gone, 0, -1, 0, 0, 1);
    }

    // ---- promises 18 to 25

    private void sets() {
        edges.sentence(18, "How many sets of black beans a LOT of a ten has.");
        int[][] want = {{2, 1, 1}, {2, 2, 2}, {2, 3, 3}, {2, 4, 6}, {2, 5, 10}, {2, 6, 20}, {2, 7, 35}, {2, 8, 70},
            {3, 8, 28}, {4, 8, 28}, {5, 8, 8}, {6, 8, 8}, {6, 1, 1}};
        for (int[] w : want) {
            TenthBean x = Check.legion(legion(w[0], w[1]));
            check.told("one in " + w[0] + " of " + w[1], x, x.sets(0), w[2]);
        }
        edges.sentence(18, "NONE: 1; 6 (nobody is there).");
        TenthBean none = new TenthBean();
        check.refused("no LEGION", none, none.sets(0), -1, 1);
        TenthBean x = twoTens();
        for (int t : Edges.outside(1)) {
            check.refused("sets(" + t + ")", x, x.sets(t), -1, 1);
        }
        check.told("one is there", x, x.sets(0), 1);
        check.refused("nobody is there", x, x.sets(1), -1, 6);
        TenthBean empty = Check.legion(legion(2, 0));
        check.refused("no men", empty, empty.sets(0), -1, 6);
    }

    private void drawn() {
        edges.sentence(19, "How likely one is drawn by a LOT of his ten, the upper WHOLE or the lower, in lowest terms (0 by 1).");
        int[][] want = {{2, 1, 1, 1}, {2, 2, 1, 2}, {2, 3, 1, 3}, {2, 5, 2, 5}, {2, 7, 3, 7}, {2, 8, 1, 2}, {3, 8, 1, 4}, {6, 8, 1, 8}, {3, 6, 1, 3}};
        for (int[] w : want) {
            TenthBean x = Check.legion(legion(w[0], w[1]));
            for (int m = 0; m < w[1]; m++) {
                check.told("upper", x, x.drawn(m, false), w[2]);
                check.told("lower", x, x.drawn(m, true), w[3]);
            }
        }
        TenthBean moved = twoTens();
        moved.move(1, 1);
        check.odds("of his ten NOW", moved.drawn(1, false), moved.drawn(1, true), 1, 1);
        edges.sentence(19, "-1: 1 (one who isn't there, too).");
        TenthBean none = new TenthBean();
        check.refused("no LEGION", none, none.drawn(0, false), -1, 1);
        TenthBean x = twoTens();
        for (int m : Edges.outside(2)) {
            check.refused("drawn(" + m + ")", x, x.drawn(m, true), -1, 1);
        }
        check.refused("one who isn't there", x, x.drawn(0, false), -1, 1);
        check.refused("nor his ten's others", x, x.drawn(2, true), -1, 1);
    }

    private void holdsAfter() {
        edges.sentence(20, "How likely it HOLDS for a START (of those still there) behind a LOT of a ten, likewise.");
        TenthBean x = Check.legion(Edges.head(2, 6, 0, 30) + ";ten t" + Edges.men('a', 4, "plain", "t", 7));
        check.odds("surely", x.holdsAfter(0, 1, false), x.holdsAfter(0, 1, true), 1, 1);
        check.odds("one of two starts yet", x.holdsAfter(0, 3, false), x.holdsAfter(0, 3, true), 1, 2);
        check.odds("never", x.holdsAfter(0, 7, false), x.holdsAfter(0, 7, true), 0, 1);
        TenthBean y = Check.legion(Edges.head(2, 6, 0, 30) + ";ten t" + Edges.men('a', 3, "plain", "t", 7));
        check.odds("he is gone", y.holdsAfter(0, 1, false), y.holdsAfter(0, 1, true), 1, 3);
        TenthBean last = Check.legion(Edges.head(0, 6, 0, 30) + ";ten t;man a plain in t nerve 0");
        check.odds("nobody is left, 0 told", last.holdsAfter(0, 1, false), last.holdsAfter(0, 1, true), 1, 1);
        edges.sentence(20, "-1: 1; 2; 6 (nobody of it is there).");
        TenthBean none = new TenthBean();
        check.refused("no LEGION", none, none.holdsAfter(0, 0, true), -1, 1);
        TenthBean z = twoTens();
        for (int t : Edges.outside(1)) {
            check.refused("holdsAfter(" + t + ")", z, z.holdsAfter(t, 2, true), -1, 1);
            check.refused("1 ahead of 2", z, z.holdsAfter(t, 1, true), -1, 1);
        }
        for (int start : new int[] {1, 3, 4, 8, -1, Integer.MIN_VALUE}) {
            check.refused("start " + start, z, z.holdsAfter(0, start, true), -1, 2);
            check.refused("2 ahead of 6", z, z.holdsAfter(1, start, true), -1, 2);
        }
        check.refused("nobody of it", z, z.holdsAfter(1, 2, false), -1, 6);
    }

    private void mutinyAfter() {
        edges.sentence(21, "How likely there is MUTINY behind it, likewise.");
        String text = Edges.head(0, 6, 0, 1) + ";ten t;ten u" + Edges.men('a', 3, "plain", "t", 7) + Edges.men('d', 1, "plain", "u", 7);
        TenthBean calm = Check.legion(text);
        check.odds("never", calm.mutinyAfter(0, false), calm.mutinyAfter(0, true), 0, 1);
        TenthBean x = Check.legion(text + ";friend a d");
        check.odds("one of three", x.mutinyAfter(0, false), x.mutinyAfter(0, true), 1, 3);
        check.odds("surely", x.mutinyAfter(1, false), x.mutinyAfter(1, true), 1, 1);
        TenthBean two = Check.legion(text.replace("mutiny 1", "mutiny 2") + ";friend a d;friend b d;friend a b");
        check.odds("a or b by two", two.mutinyAfter(0, false), two.mutinyAfter(0, true), 2, 3);
        Edges.lotOf(two, 0, 2);
        check.odds("c is gone", two.mutinyAfter(0, false), two.mutinyAfter(0, true), 1, 1);
        Edges.lotOf(two, 0, 0);
        check.odds("there is MUTINY: b goes, d is angrier", two.mutinyAfter(0, false), two.mutinyAfter(0, true), 1, 1);
        check.odds("d goes, b is", two.mutinyAfter(1, false), two.mutinyAfter(1, true), 1, 1);
        TenthBean last = Check.legion(text + ";friend c d");
        Edges.lotOf(last, 0, 2);
        check.told("there is MUTINY", last, last.mutiny(), 1);
        check.odds("it goes with the angry one", last.mutinyAfter(1, false), last.mutinyAfter(1, true), 0, 1);
        edges.sentence(21, "-1: 1; 6.");
        TenthBean none = new TenthBean();
        check.refused("no LEGION", none, none.mutinyAfter(0, true), -1, 1);
        TenthBean z = twoTens();
        for (int t : Edges.outside(1)) {
            check.refused("mutinyAfter(" + t + ")", z, z.mutinyAfter(t, true), -1, 1);
        }
        check.refused("nobody of it", z, z.mutinyAfter(1, true), -1, 6);
    }

    private void runsAfter() {
        edges.sentence(22, "The mean of how many run from a START (of those still there) behind it, likewise.");
        TenthBean x = Check.legion(legion(6, 4));
        check.odds("none", x.runsAfter(0, 0, false), x.runsAfter(0, 0, true), 0, 1);
        check.odds("one, if he isn't gone", x.runsAfter(0, 1, false), x.runsAfter(0, 1, true), 3, 4);
        check.odds("of two", x.runsAfter(0, 3, false), x.runsAfter(0, 3, true), 3, 2);
        check.odds("of all", x.runsAfter(0, 15, false), x.runsAfter(0, 15, true), 3, 1);
        TenthBean eight = Check.legion(legion(2, 8));
        check.odds("by 70 sets", eight.runsAfter(0, 7, false), eight.runsAfter(0, 7, true), 3, 2);
        check.odds("all who are left", eight.runsAfter(0, 255, false), eight.runsAfter(0, 255, true), 4, 1);
        edges.sentence(22, "-1: 1; 2; 6.");
        TenthBean none = new TenthBean();
        check.refused("no LEGION", none, none.runsAfter(0, 0, true), -1, 1);
        TenthBean z = twoTens();
        for (int t : Edges.outside(1)) {
            check.refused("runsAfter(" + t + ")", z, z.runsAfter(t, 1, true), -1, 1);
        }
        for (int start : new int[] {1, 3, 4, 8, -1, Integer.MIN_VALUE}) {
            check.refused("start " + start, z, z.runsAfter(0, start, true), -1, 2);
            check.refused("2 ahead of 6", z, z.runsAfter(1, start, true), -1, 2);
        }
        check.refused("nobody of it", z, z.runsAfter(1, 0, false), -1, 6);
    }

    private void worstSet() {
        edges.sentence(23, "The set by which most run, of like ones the least bits.");
        TenthBean x = Check.legion(legion(2, 4));
        check.told("all alike", x, x.worstSet(0, 0), 3);
        check.told("a runs if he isn't gone", x, x.worstSet(0, 1), 6);
        check.told("c and d", x, x.worstSet(0, 12), 3);
        check.told("a and b", x, x.worstSet(0, 3), 12);
        TenthBean one = Check.legion(legion(6, 1));
        check.told("the one", one, one.worstSet(0, 1), 1);
        edges.sentence(23, "NONE: 1; 2; 6.");
        TenthBean none = new TenthBean();
        check.refused("no LEGION", none, none.worstSet(0, 0), -1, 1);
        TenthBean z = twoTens();
        for (int t : Edges.outside(1)) {
            check.refused("worstSet(" + t + ")", z, z.worstSet(t, 1), -1, 1);
        }
        for (int start : new int[] {1, 3, 4, 8, -1, Integer.MIN_VALUE}) {
            check.refused("start " + start, z, z.worstSet(0, start), -1, 2);
            check.refused("2 ahead of 6", z, z.worstSet(1, start), -1, 2);
        }
        check.refused("nobody of it", z, z.worstSet(1, 0), -1, 6);
    }

    private void order() {
        edges.sentence(24, "ORDER, as bits of tens.");
        TenthBean x = Check.legion(legion(2, 0));
        check.told("no men", x, x.order(0), 0);
        TenthBean y = Check.legion(UNLIKE);
        check.told("asked first", y, y.order(0), 2);
        check.told("asked again", y, y.order(0), 2);
        check.told("one who runs anyhow", y, y.order(1), 2);
        edges.sentence(24, "NONE: 1 (no LEGION); 2.");
        TenthBean none = new TenthBean();
        check.refused("no LEGION", none, none.order(0), -1, 1);
        check.refused("no LEGION, bad too", none, none.order(1), -1, 1);
        TenthBean z = twoTens();
        for (int start : new int[] {1, 3, 4, 8, -1, Integer.MIN_VALUE}) {
            check.refused("start " + start, z, z.order(start), -1, 2);
        }
    }

    private void orderOdds() {
        edges.sentence(25, "How likely GOOD is by it, likewise.");
        TenthBean x = Check.legion(UNLIKE);
        check.told("asked first", x, x.orderOdds(0, true), 3);
        check.told("upper", x, x.orderOdds(0, false), 2);
        TenthBean empty = Check.legion(legion(2, 0));
        check.odds("no men, 0 told", empty.orderOdds(0, false), empty.orderOdds(0, true), 1, 1);
        TenthBean never = Check.legion(legion(2, 0).replace("holds 0", "holds 1"));
        check.odds("no men, 1 told", never.orderOdds(0, false), never.orderOdds(0, true), 0, 1);
        edges.sentence(25, "-1: 1 (no LEGION); 2.");
        TenthBean none = new TenthBean();
        check.refused("no LEGION", none, none.orderOdds(0, true), -1, 1);
        TenthBean z = twoTens();
        for (int start : new int[] {1, 3, 4, 8, -1, Integer.MIN_VALUE}) {
            check.refused("start " + start, z, z.orderOdds(start, true), -1, 2);
        }
    }

    // ---- promises 26 to 28

    private void friends() {
        edges.sentence(26, "TENS: how many twos of friends are in one ten.");
        TenthBean x = inTens(1, 2, ";friend a b");
        check.told("one", x, x.friends(), 1);
        Edges.lotOf(x, 0, 0);
        check.told("one of them is gone", x, x.friends(), 0);
        Edges.lotOf(x, 0, 0);
        check.told("nobody is there", x, x.friends(), 0);
        edges.sentence(26, "NONE: 1 (no LEGION).");
        TenthBean none = new TenthBean();
        check.refused("friends", none, none.friends(), -1, 1);
    }

    private void newTen() {
        edges.sentence(27, "The ten of one by it.");
        TenthBean x = inTens(3, 3, "");
        check.told("asked first", x, x.newTen(2), 2);
        TenthBean y = inTens(2, 8, "");
        check.told("the last", y, y.newTen(7), 1);
        Check.tell(y, Edges.head(0, 6, 0, 30) + ";ten t" + Edges.men('a', 8, "plain", "t", 0)
                + ";friend a b;friend b c;friend c d;friend d e;friend e f;friend f g;friend g h;friend h a");
        check.told("all must be together", y, y.newTen(7), 0);
        edges.sentence(27, "NONE: 1 (one who isn't there, too).");
        TenthBean none = new TenthBean();
        check.refused("no LEGION", none, none.newTen(0), -1, 1);
        for (int m : Edges.outside(2)) {
            check.refused("newTen(" + m + ")", x, x.newTen(m), -1, 1);
        }
        Edges.lotOf(x, 0, 1);
        check.refused("one who isn't there", x, x.newTen(1), -1, 1);
        check.told("the next", x, x.newTen(2), 1);
    }

    private void friendsNow() {
        edges.sentence(28, "How many twos of friends who are there are in one ten NOW.");
        TenthBean x = inTens(2, 8, ";friend a b;friend b c;friend c d;friend d e;friend e f;friend f g;friend g h;friend h a");
        check.told("eight", x, x.friendsNow(), 8);
        x.move(7, 1);
        check.told("h is away", x, x.friendsNow(), 6);
        x.move(0, 1);
        check.told("a is with him", x, x.friendsNow(), 6);
        Edges.lotOf(x, 0, 1);
        check.told("c is gone", x, x.friendsNow(), 4);
        TenthBean empty = inTens(2, 0, "");
        check.told("no men", empty, empty.friendsNow(), 0);
        edges.sentence(28, "NONE: 1 (no LEGION).");
        TenthBean none = new TenthBean();
        check.refused("friendsNow", none, none.friendsNow(), -1, 1);
    }
}
