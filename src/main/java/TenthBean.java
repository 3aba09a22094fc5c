import java.util.NoSuchElementException;

/** One in ten by lot: a legion told as a text, its lots, its fears, and what may come of them. */
public final class TenthBean {
    /** There is none; refused. */
    public static final int NONE = -1;

    /** The answer of a call that isn't refused, but finds nothing. */
    private static final int NOTHING = -2;
    private static final int REFUSED_LINE = -100;

    private static final int TAPE_ROOM = 1000;
    private static final int FED = 20;
    private static final int MEN = 8;
    private static final int TENS = 3;
    private static final int PAIRS = 8;
    private static final int DRAWS = 6;
    private static final int AMONGS = 5;
    private static final int ACTS = 16;
    private static final int IMAGES = 3;
    private static final int SEEDS = 65537;
    private static final int WARS_MOST = 60;
    private static final int DREAD_MOST = 9;
    private static final int FEAR_MOST = 9;
    private static final int HUNDRED = 100;

    private static final int VETERAN = 1;
    private static final int COWARD = 2;
    private static final int OFFICER = 3;

    // TROUBLE
    private static final int NO_SUCH = 1;
    private static final int BAD_NUMBER = 2;
    private static final int NO_ROOM = 3;
    private static final int FAULTY = 4;
    private static final int NOT_SO = 5;
    private static final int LACKING = 6;

    // FAULTS
    private static final int FORM = 1;
    private static final int UNTOLD = 2;
    private static final int AGAIN = 3;
    private static final int BOUNDS = 4;
    private static final int MANY = 5;
    private static final int LACKS = 6;
    private static final int BEANS = 7;

    // sorts of TOKENS
    private static final int END = 0;
    private static final int WORD = 1;
    private static final int WHOLE = 2;
    private static final int SEMICOLON = 3;
    private static final int NO_TOKEN = 4;
    private static final int WORD_MOST = 8;
    private static final int WHOLE_MOST = 3;

    // sorts of WORDS: those that begin LINES, and NAMES
    private static final int LEGION_LINE = 0;
    private static final int TEN_LINE = 1;
    private static final int MAN_LINE = 2;
    private static final int FRIEND_LINE = 3;
    private static final int HELMET_LINE = 4;
    private static final int DREW_LINE = 5;
    private static final int GONE_LINE = 6;
    private static final int AMONG_LINE = 7;
    private static final int NAME = 8;

    private final byte[] tape = new byte[TAPE_ROOM];
    private int taped = 0;
    private final Reader reader = new Reader(tape);
    private Legion told = new Legion();
    private final Now now = new Now(told);
    private final History history = new History(told);
    private final Lots lots = new Lots(told);
    private final Regroup regroup = new Regroup();
    private final Campaign campaign = new Campaign(told);
    private final Odds odds = new Odds();
    private int lastFault = 0;
    private int faultPlace = NONE;
    private int why = 0;

    public TenthBean() {
    }

    // ---- the legion

    public int feed(int a, int b, int c, int d, int e) {
        if (taped > TAPE_ROOM - FED) {
            return NONE;
        }
        putBytes(a);
        putBytes(b);
        putBytes(c);
        putBytes(d);
        putBytes(e);
        return taped;
    }

    private void putBytes(int four) {
        for (int shift = 24; shift >= 0; shift -= 8) {
            if (taped < TAPE_ROOM) {
                tape[taped] = (byte) (four >> shift);
                taped++;
            }
        }
    }

    public int legion(int n) {
        if (refused(n < 0 || n > taped ? BAD_NUMBER : 0)) {
            return NONE;
        }
        taped = 0;
        boolean sound = reader.readText(n);
        lastFault = reader.faultMet;
        faultPlace = reader.placeMet;
        if (refused(sound ? 0 : FAULTY)) {
            return NONE;
        }
        told = reader.handOver(told);
        now.begin(told);
        history.clear();
        return told.men;
    }

    public int fault() {
        return lastFault;
    }

    public int where() {
        return why == FAULTY ? faultPlace : NONE;
    }

    // ---- now

    public int man(int m, int what) {
        if (refused(what < 0 || what > 7 ? NO_SUCH : troubleOfMan(m))) {
            return NONE;
        }
        switch (what) {
            case 0: return told.kind[m];
            case 1: return now.tenOf[m];
            case 2: return told.nerve[m];
            case 3: return now.nerveOf(m, told.fear);
            case 4: return told.friendsOf[m];
            case 5: return now.angerOf[m];
            case 6: return has(now.present, m) ? 1 : 0;
            default: return has(now.braced, m) ? 1 : 0;
        }
    }

    public int ten(int t, int what) {
        if (refused(what < 0 || what > 2 ? NO_SUCH : troubleOfTen(t))) {
            return NONE;
        }
        switch (what) {
            case 0: return now.menOf(t);
            case 1: return now.beansOf(t);
            default: return now.lotsOf[t];
        }
    }

    public int there() {
        return refused(troubleOfLegion()) ? NONE : now.present;
    }

    public int anger() {
        return refused(troubleOfLegion()) ? NONE : now.angerOfAll();
    }

    public int mutiny() {
        if (refused(troubleOfLegion())) {
            return NONE;
        }
        return now.isMutinous() ? 1 : 0;
    }

    // ---- who runs

    public int runs(int start) {
        return refused(troubleOfStart(start)) ? NONE : now.runFrom(start);
    }

    public int holds(int start) {
        if (refused(troubleOfStart(start))) {
            return NONE;
        }
        return now.holdsFast(now.runFrom(start)) ? 1 : 0;
    }

    public int worst() {
        if (refused(troubleOfLegion())) {
            return NONE;
        }
        int first = NOTHING;
        int most = 0;
        for (int m = 0; m < MEN; m++) {
            if (has(now.present, m)) {
                int running = Integer.bitCount(now.runFrom(1 << m));
                if (running > most) {
                    most = running;
                    first = m;
                }
            }
        }
        return first;
    }

    public int breaks() {
        if (refused(troubleOfLegion())) {
            return NONE;
        }
        int best = NOTHING;
        int fewest = MEN + 1;
        for (int start = 0; start <= now.present; start++) {
            int count = Integer.bitCount(start);
            if (isPart(start, now.present) && count < fewest && !now.holdsFast(now.runFrom(start))) {
                best = start;
                fewest = count;
            }
        }
        return best;
    }

    public int brace(int start) {
        if (refused(troubleOfStart(start))) {
            return NONE;
        }
        // Only these can change who runs: the others run or stand whether more are braced or not.
        int useful = now.present & ~start & ~now.braced;
        int best = NOTHING;
        int fewest = MEN + 1;
        for (int more = 0; more <= useful; more++) {
            int count = Integer.bitCount(more);
            if (isPart(more, useful) && count < fewest
                    && now.holdsFast(now.runWith(start, now.braced | more, NONE, told.fear))) {
                best = more;
                fewest = count;
            }
        }
        return best;
    }

    public int toHearten(int start) {
        if (refused(troubleOfStart(start))) {
            return NONE;
        }
        int first = NOTHING;
        int fewest = Integer.bitCount(now.runFrom(start));
        for (int m = 0; m < MEN; m++) {
            if (has(now.present, m)) {
                int running = Integer.bitCount(now.runWith(start, now.braced, m, told.fear));
                if (running < fewest) {
                    fewest = running;
                    first = m;
                }
            }
        }
        return first;
    }

    public int fearFor(int start) {
        if (refused(troubleOfStart(start))) {
            return NONE;
        }
        for (int fear = 0; fear <= FEAR_MOST; fear++) {
            if (now.holdsFast(now.runWith(start, now.braced, NONE, fear))) {
                return fear;
            }
        }
        return NOTHING;
    }

    // ---- lots

    public int sets(int t) {
        if (refused(troubleOfLot(t))) {
            return NONE;
        }
        return choices(Integer.bitCount(now.menOf(t)), now.beansOf(t));
    }

    public long drawn(int m, boolean lower) {
        if (refused(troubleOfPresent(m))) {
            return NONE;
        }
        int t = now.tenOf[m];
        odds.put(now.beansOf(t), Integer.bitCount(now.menOf(t)));
        return odds.part(lower);
    }

    public long holdsAfter(int t, int start, boolean lower) {
        if (refused(troubleOfLotFrom(t, start))) {
            return NONE;
        }
        lots.survey(now, t, start);
        odds.put(lots.held, lots.all);
        return odds.part(lower);
    }

    public long mutinyAfter(int t, boolean lower) {
        if (refused(troubleOfLot(t))) {
            return NONE;
        }
        lots.survey(now, t, 0);
        odds.put(lots.mutinous, lots.all);
        return odds.part(lower);
    }

    public long runsAfter(int t, int start, boolean lower) {
        if (refused(troubleOfLotFrom(t, start))) {
            return NONE;
        }
        lots.survey(now, t, start);
        odds.put(lots.running, lots.all);
        return odds.part(lower);
    }

    public int worstSet(int t, int start) {
        if (refused(troubleOfLotFrom(t, start))) {
            return NONE;
        }
        lots.survey(now, t, start);
        return lots.worstBlack;
    }

    public int order(int start) {
        if (refused(troubleOfStart(start))) {
            return NONE;
        }
        lots.chooseTens(now, start);
        return lots.bestTens;
    }

    public long orderOdds(int start, boolean lower) {
        if (refused(troubleOfStart(start))) {
            return NONE;
        }
        lots.chooseTens(now, start);
        odds.put(lots.bestGood, lots.bestAll);
        return odds.part(lower);
    }

    // ---- tens

    public int friends() {
        if (refused(troubleOfLegion())) {
            return NONE;
        }
        regroup.solve(now);
        return regroup.fewest;
    }

    public int newTen(int m) {
        if (refused(troubleOfPresent(m))) {
            return NONE;
        }
        regroup.solve(now);
        return regroup.bestTen[m];
    }

    public int friendsNow() {
        return refused(troubleOfLegion()) ? NONE : now.friendsTogether();
    }

    // ---- the helmet

    public long doubt(boolean lower) {
        if (refused(troubleOfHelmet())) {
            return NONE;
        }
        told.helmet.drawAll();
        told.helmet.doubtTo(odds);
        return odds.part(lower);
    }

    public long next(int m, boolean lower) {
        if (refused(troubleOfDrawer(m))) {
            return NONE;
        }
        told.helmet.nextBlackTo(m, odds);
        return odds.part(lower);
    }

    public long doubtIf(int m, boolean black, boolean lower) {
        if (refused(troubleOfDrawer(m))) {
            return NONE;
        }
        told.helmet.drawAll();
        told.helmet.weighDraw(m, black);
        told.helmet.doubtTo(odds);
        return odds.part(lower);
    }

    public long honest(boolean lower) {
        if (refused(troubleOfHelmet())) {
            return NONE;
        }
        told.helmet.drawAll();
        return told.helmet.ifHonest.part(lower);
    }

    // ---- who is gone

    public int gone() {
        if (refused(troubleOfGone())) {
            return NONE;
        }
        told.earlier.count(told.men);
        return told.earlier.fitting;
    }

    public int goneAt(int i) {
        if (refused(troubleOfGone())) {
            return NONE;
        }
        int set = told.earlier.fittingAt(told.men, i);
        return refused(set == NONE ? NO_SUCH : 0) ? NONE : set;
    }

    public int goneOf(int m) {
        if (refused(firstOf(troubleOfMan(m), troubleOfGone()))) {
            return NONE;
        }
        told.earlier.count(told.men);
        return told.earlier.with[m];
    }

    public int surelyGone() {
        if (refused(troubleOfGone())) {
            return NONE;
        }
        told.earlier.count(told.men);
        return told.earlier.inAll;
    }

    public int ask() {
        if (refused(troubleOfGone())) {
            return NONE;
        }
        told.earlier.count(told.men);
        return told.earlier.bestToAsk(told.men);
    }

    public int askLeaves() {
        if (refused(troubleOfGone())) {
            return NONE;
        }
        told.earlier.count(told.men);
        int m = told.earlier.bestToAsk(told.men);
        return m == NOTHING ? NOTHING : told.earlier.leftBy(m);
    }

    // ---- two in line

    public int line(int dread, boolean runs, boolean others, boolean ofOther) {
        if (refused(troubleOfDread(dread))) {
            return REFUSED_LINE;
        }
        return ofOther ? gain(dread, others, runs) : gain(dread, runs, others);
    }

    public int rests(int dread) {
        if (refused(troubleOfDread(dread))) {
            return NONE;
        }
        int count = 0;
        for (int pair = 0; pair < 4; pair++) {
            if (isRest(dread, pair)) {
                count++;
            }
        }
        return count;
    }

    public int rest(int dread) {
        if (refused(troubleOfDread(dread))) {
            return NONE;
        }
        for (int pair = 0; pair < 4; pair++) {
            if (isRest(dread, pair)) {
                return (pair >= 2 ? 10 : 0) + (pair & 1);
            }
        }
        return NOTHING;
    }

    private static int gain(int dread, boolean runs, boolean otherRuns) {
        if (runs) {
            return 3 - dread;
        }
        return otherRuns ? -4 : 5;
    }

    /** A pair: 2 if the one runs, and 1 if the other one does. */
    private static boolean isRest(int dread, int pair) {
        boolean one = pair >= 2;
        boolean other = (pair & 1) != 0;
        return gain(dread, one, other) >= gain(dread, !one, other)
                && gain(dread, other, one) >= gain(dread, !other, one);
    }

    // ---- wars

    public int wars(int seed, int n) {
        if (refused(firstOf(troubleOfLegion(), troubleOfWars(seed, n)))) {
            return NONE;
        }
        campaign.fight(now, seed, n);
        return campaign.held;
    }

    public int warsLeft(int seed, int n) {
        if (refused(firstOf(troubleOfLegion(), troubleOfWars(seed, n)))) {
            return NONE;
        }
        campaign.fight(now, seed, n);
        return campaign.field.present;
    }

    public int warsOf(int m, int seed, int n) {
        if (refused(firstOf(troubleOfMan(m), troubleOfWars(seed, n)))) {
            return NONE;
        }
        campaign.fight(now, seed, n);
        return campaign.drawnIn[m];
    }

    // ---- acts

    public int lot(int t) {
        int ofTen = troubleOfTen(t);
        int ofMutiny = ofTen == 0 && now.isMutinous() ? NOT_SO : 0;
        if (refused(firstOf(firstOf(ofTen, ofMutiny), troubleOfLot(t)))) {
            return NONE;
        }
        history.keep(now);
        return now.drawLot(t);
    }

    public boolean braces(int m, boolean is) {
        int ofMan = troubleOfMan(m);
        if (ofMan == 0 && (!has(now.present, m) || has(now.braced, m) == is)) {
            ofMan = NOT_SO;
        }
        if (refused(ofMan)) {
            return false;
        }
        history.keep(now);
        now.braced = is ? now.braced | 1 << m : now.braced & ~(1 << m);
        return true;
    }

    public boolean move(int m, int t) {
        int ofMove = firstOf(troubleOfMan(m), troubleOfTen(t));
        if (ofMove == 0 && (!has(now.present, m) || now.tenOf[m] == t)) {
            ofMove = NOT_SO;
        }
        if (refused(ofMove)) {
            return false;
        }
        history.keep(now);
        now.tenOf[m] = t;
        now.feared[m] = 0;
        return true;
    }

    public boolean seed(int v) {
        if (refused(firstOf(troubleOfLegion(), troubleOfSeed(v)))) {
            return false;
        }
        now.seedNow = v;
        return true;
    }

    public boolean undo() {
        return !refused(history.takeBack(now) ? 0 : LACKING);
    }

    public int image() {
        if (refused(troubleOfLegion())) {
            return NONE;
        }
        int number = history.addImage(now);
        return refused(number == NONE ? NO_ROOM : 0) ? NONE : number;
    }

    public boolean back(int image) {
        return !refused(history.goBack(image, now) ? 0 : NO_SUCH);
    }

    // ---- what is told

    public int led(int i) throws NoSuchElementException {
        int count = 0;
        for (int m = 0; m < told.men; m++) {
            if (!has(now.present, m)) {
                if (count == i) {
                    return m;
                }
                count++;
            }
        }
        throw new NoSuchElementException("so many are not gone by lots");
    }

    public int size(int what) {
        switch (what) {
            case 0: return told.holdsTold;
            case 1: return told.oneIn;
            case 2: return told.fear;
            case 3: return told.mutinyTold;
            case 4: return told.tens;
            case 5: return told.men;
            case 6: return told.pairs;
            case 7: return told.helmet.draws;
            case 8: return told.earlier.amongs;
            case 9: return now.seedNow;
            case 10: return history.acts;
            case 11: return history.images;
            case 12: return taped;
            default: return NONE;
        }
    }

    public int trouble() {
        return why;
    }

    // ---- why a call is refused

    private boolean refused(int trouble) {
        why = trouble;
        return trouble != 0;
    }

    private static int firstOf(int trouble, int later) {
        return trouble != 0 ? trouble : later;
    }

    /** Every LEGION has a ten, so that none told means no LEGION. */
    private int troubleOfLegion() {
        return told.tens == 0 ? NO_SUCH : 0;
    }

    private int troubleOfMan(int m) {
        return m < 0 || m >= told.men ? NO_SUCH : 0;
    }

    private int troubleOfPresent(int m) {
        return troubleOfMan(m) == 0 && has(now.present, m) ? 0 : NO_SUCH;
    }

    private int troubleOfTen(int t) {
        return t < 0 || t >= told.tens ? NO_SUCH : 0;
    }

    private int troubleOfStart(int start) {
        return firstOf(troubleOfLegion(), isPart(start, now.present) ? 0 : BAD_NUMBER);
    }

    private int troubleOfLot(int t) {
        int ofTen = troubleOfTen(t);
        return ofTen == 0 && now.menOf(t) == 0 ? LACKING : ofTen;
    }

    private int troubleOfLotFrom(int t, int start) {
        return firstOf(firstOf(troubleOfTen(t), troubleOfStart(start)), troubleOfLot(t));
    }

    private int troubleOfHelmet() {
        return firstOf(troubleOfLegion(), told.helmet.isTold() ? 0 : LACKING);
    }

    private int troubleOfDrawer(int m) {
        int ofMan = troubleOfMan(m);
        if (ofMan == 0 && told.helmet.hasDrawn(m)) {
            return NOT_SO;
        }
        return firstOf(ofMan, troubleOfHelmet());
    }

    private int troubleOfGone() {
        return firstOf(troubleOfLegion(), told.earlier.isTold() ? 0 : LACKING);
    }

    private int troubleOfDread(int dread) {
        return firstOf(troubleOfLegion(), dread < 0 || dread > DREAD_MOST ? BAD_NUMBER : 0);
    }

    private static int troubleOfSeed(int v) {
        return v < 0 || v >= SEEDS ? BAD_NUMBER : 0;
    }

    private static int troubleOfWars(int seed, int n) {
        return firstOf(troubleOfSeed(seed), n < 0 || n > WARS_MOST ? BAD_NUMBER : 0);
    }

    // ---- bits

    private static boolean has(int set, int m) {
        return (set >> m & 1) != 0;
    }

    private static boolean isPart(int some, int of) {
        return (some & ~of) == 0;
    }

    /** How many sets of k there are of n. */
    private static int choices(int n, int k) {
        int count = 1;
        for (int i = 0; i < k; i++) {
            count = count * (n - i) / (i + 1);
        }
        return count;
    }

    /** What a text tells of a legion: no act changes it. */
    private static final class Legion {
        int holdsTold;
        int oneIn;
        int fear;
        int mutinyTold;
        int tens;
        int men;
        int pairs;
        final int[] kind = new int[MEN];
        final int[] firstTen = new int[MEN];
        final int[] nerve = new int[MEN];
        final int[] friendsOf = new int[MEN];
        /** How often he fears a LOT: a veteran twice, a coward not. */
        final int[] fearTimes = new int[MEN];
        /** For how many he counts if he runs. */
        final int[] weight = new int[MEN];
        final Helmet helmet = new Helmet();
        final Earlier earlier = new Earlier();

        void clear() {
            holdsTold = 0;
            oneIn = 0;
            fear = 0;
            mutinyTold = 0;
            tens = 0;
            men = 0;
            pairs = 0;
            helmet.clear();
            earlier.clear();
        }

        void addMan(int kindOf, int t, int nerveOf) {
            if (men < MEN) {
                kind[men] = kindOf;
                firstTen[men] = t;
                nerve[men] = nerveOf;
                friendsOf[men] = 0;
                fearTimes[men] = kindOf == VETERAN ? 2 : kindOf == COWARD ? 0 : 1;
                weight[men] = kindOf == OFFICER ? 2 : 1;
                men++;
            }
        }
    }

    /** The helmet of beans, and how far it is to be doubted. */
    private static final class Helmet {
        int beans;
        int black;
        int shaken;
        int favoured;
        int draws;
        final int[] drawer = new int[DRAWS];
        final boolean[] wasBlack = new boolean[DRAWS];
        final Odds ifHonest = new Odds();
        final Odds ifShaken = new Odds();
        final Odds before = new Odds();
        private int beansLeft;
        private int blackLeft;
        private boolean aside;

        void clear() {
            beans = 0;
            draws = 0;
        }

        /** A helmet that is told has a bean at least. */
        boolean isTold() {
            return beans > 0;
        }

        void addDraw(int m, boolean isBlack) {
            if (draws < DRAWS) {
                drawer[draws] = m;
                wasBlack[draws] = isBlack;
                draws++;
            }
        }

        boolean hasDrawn(int m) {
            for (int i = 0; i < draws; i++) {
                if (drawer[i] == m) {
                    return true;
                }
            }
            return false;
        }

        int leftOf(boolean isBlack) {
            int left = isBlack ? black : beans - black;
            for (int i = 0; i < draws; i++) {
                if (wasBlack[i] == isBlack) {
                    left--;
                }
            }
            return left;
        }

        /** Makes ifHonest and ifShaken how likely all that was drawn is by each. */
        void drawAll() {
            ifHonest.put(1, 1);
            ifShaken.put(1, 1);
            beansLeft = beans;
            blackLeft = black;
            aside = true;
            for (int i = 0; i < draws; i++) {
                weighDraw(drawer[i], wasBlack[i]);
            }
        }

        /** One draw more behind those weighed already. */
        void weighDraw(int m, boolean isBlack) {
            int fitting = isBlack ? blackLeft : beansLeft - blackLeft;
            ifHonest.times(fitting, beansLeft);
            if (!aside) {
                ifShaken.times(fitting, beansLeft);
            } else if (m == favoured) {
                ifShaken.times(isBlack && blackLeft > 0 ? 1 : 0, 1);
                aside = false;
            } else {
                ifShaken.times(isBlack ? fitting - 1 : fitting, beansLeft - 1);
            }
            beansLeft--;
            if (isBlack) {
                blackLeft--;
            }
        }

        void doubtTo(Odds into) {
            long isShaken = weightShaken();
            into.put(isShaken, isShaken + weightHonest());
        }

        void nextBlackTo(int m, Odds into) {
            drawAll();
            eitherTo(before);
            weighDraw(m, true);
            eitherTo(into);
            into.divideBy(before);
        }

        /** How likely what was weighed is, by a helmet of which it isn't known whether it is shaken. */
        private void eitherTo(Odds into) {
            into.put(weightShaken() + weightHonest(), HUNDRED * ifShaken.lower * ifHonest.lower);
        }

        private long weightShaken() {
            return shaken * ifShaken.upper * ifHonest.lower;
        }

        private long weightHonest() {
            return (HUNDRED - shaken) * ifHonest.upper * ifShaken.lower;
        }
    }

    /** What is known of an earlier lot: the sets of men who may be gone by it. */
    private static final class Earlier {
        int goneTold = NONE;
        int amongs;
        int fitting;
        int inAll;
        final int[] with = new int[MEN];
        private final int[] pair = new int[AMONGS];
        private final int[] ofPair = new int[AMONGS];

        void clear() {
            goneTold = NONE;
            amongs = 0;
        }

        boolean isTold() {
            return goneTold != NONE;
        }

        void addAmong(int one, int other, int howMany) {
            if (amongs < AMONGS) {
                pair[amongs] = 1 << one | 1 << other;
                ofPair[amongs] = howMany;
                amongs++;
            }
        }

        private boolean fits(int set) {
            if (Integer.bitCount(set) != goneTold) {
                return false;
            }
            for (int i = 0; i < amongs; i++) {
                if (Integer.bitCount(set & pair[i]) != ofPair[i]) {
                    return false;
                }
            }
            return true;
        }

        void count(int men) {
            fitting = 0;
            inAll = (1 << men) - 1;
            for (int m = 0; m < MEN; m++) {
                with[m] = 0;
            }
            for (int set = 0; set < 1 << men; set++) {
                if (fits(set)) {
                    fitting++;
                    inAll &= set;
                    countMen(set);
                }
            }
            if (fitting == 0) {
                inAll = 0;
            }
        }

        private void countMen(int set) {
            for (int m = 0; m < MEN; m++) {
                with[m] += set >> m & 1;
            }
        }

        int fittingAt(int men, int i) {
            int before = 0;
            for (int set = 0; set < 1 << men; set++) {
                if (fits(set)) {
                    if (before == i) {
                        return set;
                    }
                    before++;
                }
            }
            return NONE;
        }

        /** How many sets are left at most when it is told whether he is one; behind count(). */
        int leftBy(int m) {
            if (m < 0 || m >= MEN) {
                return fitting;
            }
            return Math.max(with[m], fitting - with[m]);
        }

        /** Behind count(). */
        int bestToAsk(int men) {
            if (fitting == 0) {
                return NOTHING;
            }
            int best = NOTHING;
            for (int m = 0; m < men; m++) {
                if (best == NOTHING || leftBy(m) < leftBy(best)) {
                    best = m;
                }
            }
            return best;
        }
    }

    /** A likelihood or a mean, in lowest terms. */
    private static final class Odds {
        long upper = 0;
        long lower = 1;

        void put(long above, long below) {
            if (above <= 0 || below <= 0) {
                upper = 0;
                lower = 1;
                return;
            }
            long by = common(above, below);
            upper = above / by;
            lower = below / by;
        }

        void times(long above, long below) {
            put(upper * above, lower * below);
        }

        /** By nothing: 0 by 1. */
        void divideBy(Odds by) {
            // Taken out ahead of the products, for these would not fit a long.
            long above = common(upper, by.upper);
            long below = common(lower, by.lower);
            put(upper / above * (by.lower / below), lower / below * (by.upper / above));
        }

        long part(boolean below) {
            return below ? lower : upper;
        }

        /** The greatest common divisor, 1 at least. */
        private static long common(long a, long b) {
            long x = a;
            long y = b;
            for (int i = 0; i < 200 && y != 0; i++) {
                long left = x % y;
                x = y;
                y = left;
            }
            return x < 1 ? 1 : x;
        }
    }

    /** Parts the tape's bytes into TOKENS, one at a time. */
    private static final class Tokens {
        private final byte[] bytes;
        private int end;
        private int length;
        int place;
        int sort;

        Tokens(byte[] bytes) {
            this.bytes = bytes;
        }

        void begin(int n) {
            end = n < bytes.length ? n : bytes.length;
            place = 0;
            length = 0;
            step();
        }

        void step() {
            place += length;
            while (place < end && bytes[place] == ' ') {
                place++;
            }
            length = 0;
            if (place >= end) {
                sort = END;
            } else if (bytes[place] == ';') {
                sort = SEMICOLON;
                length = 1;
            } else {
                length = standTogether('a', 'z');
                if (length > 0) {
                    sort = length <= WORD_MOST ? WORD : NO_TOKEN;
                } else {
                    length = standTogether('0', '9');
                    sort = length > 0 && length <= WHOLE_MOST ? WHOLE : NO_TOKEN;
                }
            }
        }

        private int standTogether(char least, char most) {
            int count = 0;
            while (place + count < end && bytes[place + count] >= least && bytes[place + count] <= most) {
                count++;
            }
            return count;
        }

        boolean isWord(String word) {
            if (sort != WORD || length != word.length() || place + length > end) {
                return false;
            }
            for (int i = 0; i < length; i++) {
                if (bytes[place + i] != word.charAt(i)) {
                    return false;
                }
            }
            return true;
        }

        /** The letters as one number; unlike words have unlike ones. */
        long letters() {
            long all = 0;
            for (int i = 0; i < length && place + i < end; i++) {
                all = all * 32 + (bytes[place + i] - 'a' + 1);
            }
            return all;
        }

        int value() {
            int all = 0;
            for (int i = 0; i < length && place + i < end; i++) {
                all = all * 10 + (bytes[place + i] - '0');
            }
            return all;
        }

        /** The sort of LINE that a WORD begins; NAME for the other WORDS, NONE for what is no WORD. */
        int wordSort() {
            if (sort != WORD) {
                return NONE;
            }
            if (isWord("legion")) {
                return LEGION_LINE;
            }
            if (isWord("ten")) {
                return TEN_LINE;
            }
            if (isWord("man")) {
                return MAN_LINE;
            }
            if (isWord("friend")) {
                return FRIEND_LINE;
            }
            if (isWord("helmet")) {
                return HELMET_LINE;
            }
            if (isWord("drew")) {
                return DREW_LINE;
            }
            if (isWord("gone")) {
                return GONE_LINE;
            }
            return isWord("among") ? AMONG_LINE : NAME;
        }
    }

    /** Reads THE TEXT into a legion, up to the first FAULT. */
    private static final class Reader {
        private final Tokens tokens;
        private final long[] tenNames = new long[TENS];
        private final long[] manNames = new long[MEN];
        private Legion into = new Legion();
        private boolean begun;
        int faultMet;
        int placeMet;

        Reader(byte[] bytes) {
            tokens = new Tokens(bytes);
        }

        /** The legion that was read; the one that it replaces is written over by the next text. */
        Legion handOver(Legion spare) {
            Legion read = into;
            into = spare;
            return read;
        }

        boolean readText(int n) {
            into.clear();
            begun = false;
            faultMet = 0;
            placeMet = NONE;
            tokens.begin(n);
            for (int lines = 0; lines < TAPE_ROOM; lines++) {
                int sort = tokens.wordSort();
                int number = faultOfLine(sort);
                if (number != 0) {
                    return fail(number);
                }
                tokens.step();
                boolean sound;
                switch (sort) {
                    case LEGION_LINE: sound = readLegion(); break;
                    case TEN_LINE: sound = readTen(); break;
                    case MAN_LINE: sound = readMan(); break;
                    case FRIEND_LINE: sound = readFriend(); break;
                    case HELMET_LINE: sound = readHelmet(); break;
                    case DREW_LINE: sound = readDrew(); break;
                    case GONE_LINE: sound = readGone(); break;
                    default: sound = readAmong(); break;
                }
                if (!sound) {
                    return false;
                }
                if (tokens.sort == END) {
                    return into.tens > 0 || fail(LACKS);
                }
                if (tokens.sort != SEMICOLON) {
                    return fail(FORM);
                }
                tokens.step();
            }
            return fail(FORM);
        }

        private boolean fail(int number) {
            faultMet = number;
            placeMet = tokens.place;
            return false;
        }

        /** The FAULT at a LINE's first WORD, 0 without one. */
        private int faultOfLine(int sort) {
            if (sort == NONE || sort == NAME) {
                return FORM;
            }
            if (sort == LEGION_LINE) {
                return begun ? AGAIN : 0;
            }
            if (!begun) {
                return LACKS;
            }
            switch (sort) {
                case TEN_LINE: return into.tens < TENS ? 0 : MANY;
                case MAN_LINE: return into.men < MEN ? 0 : MANY;
                case FRIEND_LINE: return into.pairs < PAIRS ? 0 : MANY;
                case HELMET_LINE: return into.helmet.isTold() ? AGAIN : 0;
                case DREW_LINE: return behind(into.helmet.isTold(), into.helmet.draws < DRAWS);
                case GONE_LINE: return into.earlier.isTold() ? AGAIN : 0;
                default: return behind(into.earlier.isTold(), into.earlier.amongs < AMONGS);
            }
        }

        private static int behind(boolean isTold, boolean hasRoom) {
            if (!isTold) {
                return LACKS;
            }
            return hasRoom ? 0 : MANY;
        }

        private boolean readLegion() {
            begun = true;
            into.holdsTold = readNamed("holds", 0, MEN);
            if (into.holdsTold == NONE) {
                return false;
            }
            into.oneIn = readNamed("lots", 2, 6);
            if (into.oneIn == NONE) {
                return false;
            }
            into.fear = readNamed("fear", 0, 4);
            if (into.fear == NONE) {
                return false;
            }
            into.mutinyTold = readNamed("mutiny", 1, 30);
            return into.mutinyTold != NONE;
        }

        private boolean readTen() {
            if (!isFreshName()) {
                return false;
            }
            if (into.tens < TENS) {
                tenNames[into.tens] = tokens.letters();
                into.tens++;
            }
            tokens.step();
            return true;
        }

        private boolean readMan() {
            if (!isFreshName()) {
                return false;
            }
            long name = tokens.letters();
            tokens.step();
            int kind = readKind();
            if (kind == NONE || !readWord("in")) {
                return false;
            }
            int t = findTold(tenNames, into.tens);
            if (t == NONE) {
                return false;
            }
            tokens.step();
            int nerve = readNamed("nerve", 0, 7);
            if (nerve == NONE) {
                return false;
            }
            if (into.men < MEN) {
                manNames[into.men] = name;
                into.addMan(kind, t, nerve);
            }
            return true;
        }

        private boolean readFriend() {
            int one = readMember();
            int other = one == NONE ? NONE : findOther(one);
            if (other == NONE) {
                return false;
            }
            if (has(into.friendsOf[one], other)) {
                return fail(AGAIN);
            }
            tokens.step();
            into.friendsOf[one] |= 1 << other;
            into.friendsOf[other] |= 1 << one;
            into.pairs++;
            return true;
        }

        private boolean readHelmet() {
            int beans = readNamed("beans", 1, 12);
            int black = beans == NONE ? NONE : readNamed("black", 1, beans);
            int shaken = black == NONE ? NONE : readNamed("shaken", 0, HUNDRED);
            if (shaken == NONE || !readWord("for")) {
                return false;
            }
            int m = readMember();
            if (m == NONE) {
                return false;
            }
            into.helmet.beans = beans;
            into.helmet.black = black;
            into.helmet.shaken = shaken;
            into.helmet.favoured = m;
            return true;
        }

        private boolean readDrew() {
            int m = findTold(manNames, into.men);
            if (m == NONE) {
                return false;
            }
            if (into.helmet.hasDrawn(m)) {
                return fail(AGAIN);
            }
            tokens.step();
            boolean isBlack = tokens.isWord("black");
            if (!isBlack && !tokens.isWord("white")) {
                return fail(FORM);
            }
            if (into.helmet.leftOf(isBlack) <= 0) {
                return fail(BEANS);
            }
            into.helmet.addDraw(m, isBlack);
            tokens.step();
            return true;
        }

        private boolean readGone() {
            into.earlier.goneTold = readWhole(0, into.men);
            return into.earlier.goneTold != NONE;
        }

        private boolean readAmong() {
            int one = readMember();
            int other = one == NONE ? NONE : findOther(one);
            if (other == NONE) {
                return false;
            }
            tokens.step();
            int howMany = readWhole(0, 2);
            if (howMany == NONE) {
                return false;
            }
            into.earlier.addAmong(one, other, howMany);
            return true;
        }

        private boolean readWord(String word) {
            if (!tokens.isWord(word)) {
                return fail(FORM);
            }
            tokens.step();
            return true;
        }

        private int readNamed(String word, int least, int most) {
            return readWord(word) ? readWhole(least, most) : NONE;
        }

        private int readWhole(int least, int most) {
            if (tokens.sort != WHOLE) {
                fail(FORM);
                return NONE;
            }
            int value = tokens.value();
            if (value < least || value > most) {
                fail(BOUNDS);
                return NONE;
            }
            tokens.step();
            return value;
        }

        private int readKind() {
            int kind = NONE;
            if (tokens.isWord("plain")) {
                kind = 0;
            } else if (tokens.isWord("veteran")) {
                kind = VETERAN;
            } else if (tokens.isWord("coward")) {
                kind = COWARD;
            } else if (tokens.isWord("officer")) {
                kind = OFFICER;
            } else {
                fail(FORM);
                return NONE;
            }
            tokens.step();
            return kind;
        }

        private boolean isFreshName() {
            if (tokens.wordSort() != NAME) {
                return fail(FORM);
            }
            long name = tokens.letters();
            if (indexOf(tenNames, into.tens, name) != NONE || indexOf(manNames, into.men, name) != NONE) {
                return fail(AGAIN);
            }
            return true;
        }

        /** The number of the one told by that NAME; the token stays, so that a FAULT is at it. */
        private int findTold(long[] names, int count) {
            if (tokens.wordSort() != NAME) {
                fail(FORM);
                return NONE;
            }
            int index = indexOf(names, count, tokens.letters());
            if (index == NONE) {
                fail(UNTOLD);
            }
            return index;
        }

        private int readMember() {
            int m = findTold(manNames, into.men);
            if (m != NONE) {
                tokens.step();
            }
            return m;
        }

        private int findOther(int one) {
            int other = findTold(manNames, into.men);
            if (other == one) {
                fail(AGAIN);
                return NONE;
            }
            return other;
        }

        private static int indexOf(long[] names, int count, long name) {
            for (int i = 0; i < count && i < names.length; i++) {
                if (names[i] == name) {
                    return i;
                }
            }
            return NONE;
        }
    }

    /** How a legion is at one time, and what happens to it. */
    private static final class Now {
        Legion told;
        int present;
        int braced;
        int seedNow;
        final int[] tenOf = new int[MEN];
        /** LOTS that a man has feared: those drawn in his ten since he is in it. */
        final int[] feared = new int[MEN];
        final int[] angerOf = new int[MEN];
        final int[] lotsOf = new int[TENS];

        Now(Legion legion) {
            told = legion;
        }

        void begin(Legion legion) {
            told = legion;
            present = (1 << legion.men) - 1;
            braced = 0;
            seedNow = 0;
            for (int m = 0; m < MEN; m++) {
                tenOf[m] = legion.firstTen[m];
                feared[m] = 0;
                angerOf[m] = 0;
            }
            for (int t = 0; t < TENS; t++) {
                lotsOf[t] = 0;
            }
        }

        void copyFrom(Now other) {
            told = other.told;
            present = other.present;
            braced = other.braced;
            seedNow = other.seedNow;
            System.arraycopy(other.tenOf, 0, tenOf, 0, MEN);
            System.arraycopy(other.feared, 0, feared, 0, MEN);
            System.arraycopy(other.angerOf, 0, angerOf, 0, MEN);
            System.arraycopy(other.lotsOf, 0, lotsOf, 0, TENS);
        }

        int menOf(int t) {
            int men = 0;
            for (int m = 0; m < MEN; m++) {
                if (has(present, m) && tenOf[m] == t) {
                    men |= 1 << m;
                }
            }
            return men;
        }

        int beansOf(int t) {
            int men = Integer.bitCount(menOf(t));
            if (men == 0 || told.oneIn < 1) {
                return 0;
            }
            return Math.max(1, men / told.oneIn);
        }

        int nerveOf(int m, int fear) {
            return told.nerve[m] + fear * told.fearTimes[m] * feared[m];
        }

        int angerOfAll() {
            int sum = 0;
            for (int m = 0; m < MEN; m++) {
                if (has(present, m)) {
                    sum += angerOf[m];
                }
            }
            return sum;
        }

        boolean isMutinous() {
            return angerOfAll() >= told.mutinyTold;
        }

        int runFrom(int start) {
            return runWith(start, braced, NONE, told.fear);
        }

        /** Who runs, if these were braced, one (or NONE) had one NERVE more, and so much were feared. */
        int runWith(int start, int held, int heartened, int fear) {
            int running = 0;
            int weight = 0;
            int more = start;
            for (int pass = 0; pass <= MEN && (pass == 0 || more != 0); pass++) {
                for (int m = 0; m < MEN; m++) {
                    weight += has(more, m) ? told.weight[m] : 0;
                }
                running |= more;
                more = 0;
                for (int m = 0; m < MEN; m++) {
                    if (has(present & ~running & ~held, m)
                            && nerveOf(m, fear) + (m == heartened ? 1 : 0) <= weight) {
                        more |= 1 << m;
                    }
                }
            }
            return running;
        }

        boolean holdsFast(int running) {
            return Integer.bitCount(present & ~running) >= told.holdsTold;
        }

        int friendsTogether() {
            int count = 0;
            for (int one = 0; one < MEN; one++) {
                for (int other = one + 1; other < MEN; other++) {
                    if (has(present, one) && has(present, other) && tenOf[one] == tenOf[other]
                            && has(told.friendsOf[one], other)) {
                        count++;
                    }
                }
            }
            return count;
        }

        /** A LOT of a ten by which these drew the black beans. */
        void takeAway(int t, int black) {
            if (t < 0 || t >= TENS) {
                return;
            }
            present &= ~black;
            lotsOf[t]++;
            for (int m = 0; m < MEN; m++) {
                if (has(present, m)) {
                    feared[m] += tenOf[m] == t ? 1 : 0;
                    angerOf[m] += Integer.bitCount(told.friendsOf[m] & black);
                }
            }
        }

        /** A LOT of a ten by SEED: who drew the black beans. */
        int drawLot(int t) {
            int men = menOf(t);
            int beans = beansOf(t);
            int black = 0;
            for (int i = 0; i < beans; i++) {
                black |= drawOne(men & ~black);
            }
            takeAway(t, black);
            return black;
        }

        /** One of these by a DRAW, as a bit; without anybody no DRAW is made. */
        int drawOne(int from) {
            int count = Integer.bitCount(from);
            if (count == 0) {
                return 0;
            }
            seedNow = (75 * seedNow + 74) % SEEDS;
            int left = seedNow % count;
            for (int m = 0; m < MEN; m++) {
                if (has(from, m)) {
                    if (left == 0) {
                        return 1 << m;
                    }
                    left--;
                }
            }
            return 0;
        }
    }

    /** The ACTS that can be undone, and the IMAGES. */
    private static final class History {
        private final Now[] kept = new Now[ACTS];
        private final Now[] pictures = new Now[IMAGES];
        private int top = 0;
        int acts = 0;
        int images = 0;

        History(Legion legion) {
            for (int i = 0; i < ACTS; i++) {
                kept[i] = new Now(legion);
            }
            for (int i = 0; i < IMAGES; i++) {
                pictures[i] = new Now(legion);
            }
        }

        void clear() {
            acts = 0;
            images = 0;
        }

        void keep(Now now) {
            kept[top].copyFrom(now);
            top = (top + 1) % ACTS;
            acts = Math.min(acts + 1, ACTS);
        }

        boolean takeBack(Now now) {
            if (acts == 0) {
                return false;
            }
            acts--;
            top = (top + ACTS - 1) % ACTS;
            now.copyFrom(kept[top]);
            return true;
        }

        int addImage(Now now) {
            if (images >= IMAGES) {
                return NONE;
            }
            pictures[images].copyFrom(now);
            images++;
            return images - 1;
        }

        boolean goBack(int number, Now now) {
            if (number < 0 || number >= images) {
                return false;
            }
            now.copyFrom(pictures[number]);
            acts = 0;
            return true;
        }
    }

    /** What comes of LOTS, by all sets of black beans. */
    private static final class Lots {
        private final Now[] after = new Now[TENS + 1];
        int all;
        int held;
        int mutinous;
        int running;
        int worstBlack;
        int bestTens;
        int bestGood;
        int bestAll;
        private int good;
        private int ways;

        Lots(Legion legion) {
            for (int i = 0; i <= TENS; i++) {
                after[i] = new Now(legion);
            }
        }

        /** All sets of one LOT. */
        void survey(Now now, int t, int start) {
            all = 0;
            held = 0;
            mutinous = 0;
            running = 0;
            worstBlack = 0;
            int most = NONE;
            int men = now.menOf(t);
            int beans = now.beansOf(t);
            Now then = after[0];
            for (int black = 1; black <= men; black++) {
                if (isPart(black, men) && Integer.bitCount(black) == beans) {
                    then.copyFrom(now);
                    then.takeAway(t, black);
                    int run = then.runFrom(start & then.present);
                    int count = Integer.bitCount(run);
                    all++;
                    held += then.holdsFast(run) ? 1 : 0;
                    mutinous += then.isMutinous() ? 1 : 0;
                    running += count;
                    if (count > most) {
                        most = count;
                        worstBlack = black;
                    }
                }
            }
        }

        /** ORDER: which tens to draw. */
        void chooseTens(Now now, int start) {
            int tens = now.told.tens;
            bestTens = 0;
            bestGood = NONE;
            bestAll = 1;
            for (int chosen = 0; chosen < 1 << tens; chosen++) {
                good = 0;
                ways = 0;
                after[0].copyFrom(now);
                drawFrom(0, tens, chosen, start);
                // Both are counts of at most 70 or so ways, so that the products fit.
                int gain = good * bestAll - bestGood * ways;
                if (gain > 0 || gain == 0 && Integer.bitCount(chosen) < Integer.bitCount(bestTens)) {
                    bestTens = chosen;
                    bestGood = good;
                    bestAll = ways;
                }
            }
        }

        /** All ways of LOTS of the chosen tens from number t on; after[t] is how it is ahead of them. */
        private void drawFrom(int t, int tens, int chosen, int start) {
            if (t < 0 || t > TENS) {
                return;
            }
            if (t == tens || t == TENS) {
                countWay(after[t], start);
                return;
            }
            Now then = after[t + 1];
            int men = has(chosen, t) ? after[t].menOf(t) : 0;
            if (men == 0) {
                then.copyFrom(after[t]);
                drawFrom(t + 1, tens, chosen, start);
                return;
            }
            int beans = after[t].beansOf(t);
            for (int black = 1; black <= men; black++) {
                if (isPart(black, men) && Integer.bitCount(black) == beans) {
                    then.copyFrom(after[t]);
                    then.takeAway(t, black);
                    drawFrom(t + 1, tens, chosen, start);
                }
            }
        }

        private void countWay(Now then, int start) {
            ways++;
            if (!then.isMutinous() && then.holdsFast(then.runFrom(start & then.present))) {
                good++;
            }
        }
    }

    /** TENS: all who are there anew to tens, with fewest friends in one. */
    private static final class Regroup {
        int fewest;
        final int[] bestTen = new int[MEN];
        private final int[] ten = new int[MEN];
        private final int[] menOfTen = new int[TENS];
        private int most;

        void solve(Now now) {
            fewest = PAIRS + 1;
            int tens = now.told.tens;
            if (tens > 0) {
                most = (Integer.bitCount(now.present) + tens - 1) / tens;
                for (int t = 0; t < TENS; t++) {
                    menOfTen[t] = 0;
                }
                assignFrom(now, 0, 0);
            }
        }

        /** Men from m on; only what has fewer friends is gone into, so that of like ones the first stays. */
        private void assignFrom(Now now, int m, int friendsYet) {
            if (friendsYet >= fewest) {
                return;
            }
            if (m < 0 || m >= MEN) {
                fewest = friendsYet;
                System.arraycopy(ten, 0, bestTen, 0, MEN);
                return;
            }
            if (!has(now.present, m)) {
                assignFrom(now, m + 1, friendsYet);
                return;
            }
            for (int t = 0; t < now.told.tens && t < TENS; t++) {
                if (Integer.bitCount(menOfTen[t]) < most) {
                    int more = Integer.bitCount(menOfTen[t] & now.told.friendsOf[m]);
                    ten[m] = t;
                    menOfTen[t] |= 1 << m;
                    assignFrom(now, m + 1, friendsYet + more);
                    menOfTen[t] &= ~(1 << m);
                }
            }
        }
    }

    /** WARS by a SEED. */
    private static final class Campaign {
        final Now field;
        final int[] drawnIn = new int[MEN];
        int held;

        Campaign(Legion legion) {
            field = new Now(legion);
        }

        void fight(Now now, int seed, int n) {
            field.copyFrom(now);
            field.seedNow = seed;
            held = 0;
            for (int m = 0; m < MEN; m++) {
                drawnIn[m] = 0;
            }
            int tens = now.told.tens;
            for (int war = 0; war < n && tens > 0; war++) {
                if (!field.isMutinous()) {
                    note(drawWar(war % tens), war + 1);
                }
                int start = field.drawOne(field.present);
                held += field.holdsFast(field.runFrom(start)) ? 1 : 0;
            }
        }

        private int drawWar(int t) {
            return field.menOf(t) == 0 ? 0 : field.drawLot(t);
        }

        private void note(int black, int war) {
            for (int m = 0; m < MEN; m++) {
                if (has(black, m)) {
                    drawnIn[m] = war;
                }
            }
        }
    }
}
