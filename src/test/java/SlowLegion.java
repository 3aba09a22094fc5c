import java.math.BigInteger;
import java.util.ArrayList;
import java.util.Arrays;
import java.util.List;
import java.util.TreeSet;
import java.util.function.IntPredicate;
import java.util.regex.Matcher;
import java.util.regex.Pattern;

/**
 * A second, slow TenthBean, written from the document alone in another way: NOW is replayed from a list of events each
 * time it is asked for, refusals and faults are exceptions, sets are searched whole.
 */
final class SlowLegion {
    static final class No extends RuntimeException {
        final int trouble;

        No(int trouble) {
            super(null, null, false, false);
            this.trouble = trouble;
        }
    }

    private static final class Fault extends RuntimeException {
        final int number;
        final int place;

        Fault(int number, int place) {
            super(null, null, false, false);
            this.number = number;
            this.place = place;
        }
    }

    private record Event(char what, int a, int b) { }

    private record Told(int[] head, List<String> tens, List<String> men, List<int[]> ofMen, List<TreeSet<Integer>> pairs,
            int[] helmet, List<int[]> draws, int[] gone, List<int[]> amongs) {
        Told() {
            this(new int[4], new ArrayList<>(), new ArrayList<>(), new ArrayList<>(), new ArrayList<>(),
                    new int[4], new ArrayList<>(), new int[] {-1}, new ArrayList<>());
        }
    }

    private record Shot(List<Event> log, int seed) { }

    private StringBuilder tape = new StringBuilder();
    private Told told = null;
    private List<Event> log = new ArrayList<>();
    private int seed = 0;
    private final List<Shot> acts = new ArrayList<>();
    private final List<Shot> images = new ArrayList<>();
    private int fault = 0;
    private int place = -1;
    private int trouble = 0;

    // ---- asked by a call's name

    private static final String UNREFUSED = " feed fault where size trouble led ";

    Object ask(String name, int... a) {
        if (UNREFUSED.contains(" " + name + " ")) {
            return answer(name, a);
        }
        try {
            Object is = answer(name, a);
            trouble = 0;
            return is;
        } catch (No no) {
            trouble = no.trouble;
            return name.equals("line") ? (Object) (-100) : List.of("braces", "move", "seed", "undo", "back").contains(name) ? 0 : -1;
        }
    }

    private Object answer(String name, int[] a) {
        switch (name) {
            case "feed": return feed(a);
            case "legion": return legion(a[0]);
            case "fault": return fault;
            case "where": return trouble == 4 ? place : -1;
            case "size": return size(a[0]);
            case "trouble": return trouble;
            case "led": return led(a[0]);
            case "undo": return undo();
            case "back": return back(a[0]);
            default:
        }
        if (told == null) {
            throw new No(1);
        }
        switch (name) {
            case "man": return man(a[0], a[1]);
            case "ten": return ten(a[0], a[1]);
            case "there": return bits(there(log));
            case "anger": return angerOfAll(log);
            case "mutiny": return mutiny(log) ? 1 : 0;
            case "runs": return bits(run(log, start(a[0]), -1, told.head[2], 0));
            case "holds": return holds(log, run(log, start(a[0]), -1, told.head[2], 0)) ? 1 : 0;
            case "worst": return worst();
            case "breaks": return breaks();
            case "brace": return brace(a[0]);
            case "toHearten": return toHearten(a[0]);
            case "fearFor": return fearFor(a[0]);
            case "sets": return lotSets(lotTen(a[0])).size();
            case "drawn": return drawn(a[0], a[1]);
            case "holdsAfter": case "runsAfter": case "worstSet": return after(name, a);
            case "mutinyAfter": return mutinyAfter(a[0], a[1]);
            case "order": return order(a[0])[0].intValue();
            case "orderOdds": return half(order(a[0])[1], order(a[0])[2], a[1]);
            case "friends": return tens()[0];
            case "newTen": present(a[0]); return tens()[1 + a[0]];
            case "friendsNow": return together(m -> has(there(log), m), tenRow(log));
            case "doubt": case "honest": case "next": case "doubtIf": return helmet(name, a);
            case "gone": case "goneAt": case "goneOf": case "surelyGone": case "ask": case "askLeaves": return gone(name, a);
            case "line": case "rests": case "rest": return two(name, a);
            case "wars": return wars(a[0], a[1])[0];
            case "warsLeft": return wars(a[0], a[1])[1];
            case "warsOf": theMan(a[0]); return wars(a[1], a[2])[2 + a[0]];
            case "lot": return lot(a[0]);
            case "braces": return braces(a[0], a[1]);
            case "move": return move(a[0], a[1]);
            case "seed": return setSeed(a[0]);
            case "image": return image();
            default: throw new IllegalArgumentException(name);
        }
    }

    // ---- the text

    private int feed(int[] a) {
        if (tape.length() + 20 > 1000) {
            return -1;
        }
        for (int v : a) {
            for (int i = 3; i >= 0; i--) {
                tape.append((char) (v >>> 8 * i & 255));
            }
        }
        return tape.length();
    }

    private int legion(int n) {
        if (n < 0 || n > tape.length()) {
            throw new No(2);
        }
        String text = tape.substring(0, n);
        tape = new StringBuilder();
        try {
            told = new Parse(text).all();
        } catch (Fault f) {
            fault = f.number;
            place = f.place;
            throw new No(4);
        }
        fault = 0;
        log = new ArrayList<>();
        seed = 0;
        acts.clear();
        images.clear();
        return told.men.size();
    }

    private static final class Parse {
        private static final List<String> RESERVED = List.of("legion", "ten", "man", "friend", "helmet", "drew", "gone", "among");
        private final List<String> words = new ArrayList<>();
        private final List<Integer> places = new ArrayList<>();
        private final Told told = new Told();
        private int at = 0;
        private boolean begun = false;

        /** Tokens up to the first byte that begins none; "" is the end, "?" such a byte. */
        Parse(String text) {
            Matcher m = Pattern.compile(" *([a-z]+|[0-9]+|;)").matcher(text);
            int from = 0;
            while (m.find(from) && m.start() == from) {
                String word = m.group(1);
                boolean bad = word.length() > (Character.isDigit(word.charAt(0)) ? 3 : 8);
                words.add(bad ? "?" : word);
                places.add(m.start(1));
                from = m.end();
            }
            while (from < text.length() && text.charAt(from) == ' ') {
                from++;
            }
            words.add(from == text.length() ? "" : "?");
            places.add(from);
        }

        Told all() {
            do {
                oneLine();
            } while (next().equals(";") && at++ >= 0);
            demand(next().isEmpty(), 1);
            demand(!told.tens.isEmpty(), 6);
            return told;
        }

        private String next() {
            return words.get(at);
        }

        private void demand(boolean is, int number) {
            if (!is) {
                throw new Fault(number, places.get(at));
            }
        }

        private void word(String w) {
            demand(next().equals(w), 1);
            at++;
        }

        private int whole(int least, int most) {
            demand(next().matches("[0-9]+"), 1);
            int v = Integer.parseInt(next());
            demand(least <= v && v <= most, 4);
            at++;
            return v;
        }

        private int named(String w, int least, int most) {
            word(w);
            return whole(least, most);
        }

        private void name() {
            demand(next().matches("[a-z]+") && !RESERVED.contains(next()), 1);
        }

        private int find(List<String> of) {
            name();
            demand(of.contains(next()), 2);
            return of.indexOf(next());
        }

        private String fresh() {
            name();
            demand(!told.tens.contains(next()) && !told.men.contains(next()), 3);
            return words.get(at++);
        }

        private void oneLine() {
            demand(RESERVED.contains(next()), 1);
            String sort = next();
            demand(sort.equals("legion") || begun, 6);
            switch (sort) {
                case "legion" -> legionLine();
                case "ten" -> {
                    room(told.tens.size(), 3);
                    told.tens.add(fresh());
                }
                case "man" -> manLine();
                case "friend" -> {
                    room(told.pairs.size(), 8);
                    TreeSet<Integer> two = two();
                    demand(!told.pairs.contains(two), 3);
                    at++;
                    told.pairs.add(two);
                }
                case "helmet" -> helmetLine();
                case "drew" -> drewLine();
                case "gone" -> {
                    demand(told.gone[0] < 0, 3);
                    at++;
                    told.gone[0] = whole(0, told.men.size());
                }
                default -> {
                    demand(told.gone[0] >= 0, 6);
                    room(told.amongs.size(), 5);
                    TreeSet<Integer> two = two();
                    at++;
                    told.amongs.add(new int[] {two.first(), two.last(), whole(0, 2)});
                }
            }
        }

        private void room(int size, int most) {
            demand(size < most, 5);
            at++;
        }

        /** The second man's token stays. */
        private TreeSet<Integer> two() {
            TreeSet<Integer> two = new TreeSet<>();
            two.add(find(told.men));
            at++;
            two.add(find(told.men));
            demand(two.size() == 2, 3);
            return two;
        }

        private void legionLine() {
            demand(!begun, 3);
            begun = true;
            at++;
            told.head[0] = named("holds", 0, 8);
            told.head[1] = named("lots", 2, 6);
            told.head[2] = named("fear", 0, 4);
            told.head[3] = named("mutiny", 1, 30);
        }

        private void manLine() {
            room(told.men.size(), 8);
            String name = fresh();
            int kind = List.of("plain", "veteran", "coward", "officer").indexOf(next());
            demand(kind >= 0, 1);
            at++;
            word("in");
            int t = find(told.tens);
            at++;
            told.ofMen.add(new int[] {kind, t, named("nerve", 0, 7)});
            told.men.add(name);
        }

        private void helmetLine() {
            demand(told.helmet[0] == 0, 3);
            at++;
            int beans = named("beans", 1, 12);
            int black = named("black", 1, beans);
            int shaken = named("shaken", 0, 100);
            word("for");
            int m = find(told.men);
            at++;
            System.arraycopy(new int[] {beans, black, shaken, m}, 0, told.helmet, 0, 4);
        }

        private void drewLine() {
            demand(told.helmet[0] > 0, 6);
            room(told.draws.size(), 6);
            int m = find(told.men);
            demand(told.draws.stream().noneMatch(d -> d[0] == m), 3);
            at++;
            int black = List.of("white", "black").indexOf(next());
            demand(black >= 0, 1);
            long gone = told.draws.stream().filter(d -> d[1] == black).count();
            demand(gone < (black == 1 ? told.helmet[1] : told.helmet[0] - told.helmet[1]), 7);
            at++;
            told.draws.add(new int[] {m, black});
        }
    }

    // ---- NOW, replayed

    private int men() {
        return told.men.size();
    }

    private static boolean has(TreeSet<Integer> set, int m) {
        return set.contains(m);
    }

    private static int bits(Iterable<Integer> set) {
        int all = 0;
        for (int m : set) {
            all |= 1 << m;
        }
        return all;
    }

    private static TreeSet<Integer> set(int bits) {
        TreeSet<Integer> all = new TreeSet<>();
        for (int m = 0; m < 32; m++) {
            if ((bits >>> m & 1) == 1) {
                all.add(m);
            }
        }
        return all;
    }

    private TreeSet<Integer> there(List<Event> of) {
        TreeSet<Integer> all = set((1 << men()) - 1);
        for (Event e : of) {
            if (e.what == 'L') {
                all.removeAll(set(e.b));
            }
        }
        return all;
    }

    private int tenOf(List<Event> of, int m) {
        int t = told.ofMen.get(m)[1];
        for (Event e : of) {
            t = e.what == 'M' && e.a == m ? e.b : t;
        }
        return t;
    }

    private int[] tenRow(List<Event> of) {
        int[] row = new int[men()];
        for (int m = 0; m < men(); m++) {
            row[m] = tenOf(of, m);
        }
        return row;
    }

    /** The events up to the one by which he is gone. */
    private static List<Event> lifeOf(List<Event> of, int m) {
        for (int i = 0; i < of.size(); i++) {
            if (of.get(i).what == 'L' && set(of.get(i).b).contains(m)) {
                return of.subList(0, i);
            }
        }
        return of;
    }

    private int nerve(List<Event> of, int m, int fear) {
        int lots = 0;
        for (Event e : lifeOf(of, m)) {
            if (e.what == 'M' && e.a == m) {
                lots = 0;
            }
            if (e.what == 'L' && e.a == tenOf(of.subList(0, of.indexOf(e)), m)) {
                lots++;
            }
        }
        return told.ofMen.get(m)[2] + fear * lots * new int[] {1, 2, 0, 1}[told.ofMen.get(m)[0]];
    }

    private int friendBits(int m) {
        int all = 0;
        for (TreeSet<Integer> two : told.pairs) {
            if (two.contains(m)) {
                all |= bits(two) & ~(1 << m);
            }
        }
        return all;
    }

    private int anger(List<Event> of, int m) {
        int all = 0;
        for (Event e : lifeOf(of, m)) {
            all += e.what == 'L' ? Integer.bitCount(friendBits(m) & e.b) : 0;
        }
        return all;
    }

    private int angerOfAll(List<Event> of) {
        return there(of).stream().mapToInt(m -> anger(of, m)).sum();
    }

    private boolean mutiny(List<Event> of) {
        return angerOfAll(of) >= told.head[3];
    }

    private boolean braced(List<Event> of, int m) {
        boolean is = false;
        for (Event e : of) {
            is = e.what == 'B' && e.a == m ? e.b == 1 : is;
        }
        return is;
    }

    private TreeSet<Integer> menOf(List<Event> of, int t) {
        TreeSet<Integer> all = there(of);
        all.removeIf(m -> tenOf(of, m) != t);
        return all;
    }

    private int beans(List<Event> of, int t) {
        int men = menOf(of, t).size();
        return men == 0 ? 0 : Math.max(1, men / told.head[1]);
    }

    private int man(int m, int what) {
        theMan(m);
        switch (what) {
            case 0: return told.ofMen.get(m)[0];
            case 1: return tenOf(log, m);
            case 2: return told.ofMen.get(m)[2];
            case 3: return nerve(log, m, told.head[2]);
            case 4: return friendBits(m);
            case 5: return anger(log, m);
            case 6: return has(there(log), m) ? 1 : 0;
            case 7: return braced(log, m) ? 1 : 0;
            default: throw new No(1);
        }
    }

    private int ten(int t, int what) {
        theTen(t);
        switch (what) {
            case 0: return bits(menOf(log, t));
            case 1: return beans(log, t);
            case 2: return (int) log.stream().filter(e -> e.what == 'L' && e.a == t).count();
            default: throw new No(1);
        }
    }

    private void theMan(int m) {
        if (m < 0 || m >= men()) {
            throw new No(1);
        }
    }

    private void theTen(int t) {
        if (t < 0 || t >= told.tens.size()) {
            throw new No(1);
        }
    }

    private void present(int m) {
        theMan(m);
        if (!has(there(log), m)) {
            throw new No(1);
        }
    }

    private int lotTen(int t) {
        theTen(t);
        if (menOf(log, t).isEmpty()) {
            throw new No(6);
        }
        return t;
    }

    private TreeSet<Integer> start(int bits) {
        if (!there(log).containsAll(set(bits))) {
            throw new No(2);
        }
        return set(bits);
    }

    // ---- who runs

    private TreeSet<Integer> run(List<Event> of, TreeSet<Integer> start, int heartened, int fear, int bracedToo) {
        TreeSet<Integer> running = new TreeSet<>(start);
        running.retainAll(there(of));
        boolean more = true;
        while (more) {
            more = false;
            for (int m : there(of)) {
                int weight = running.stream().mapToInt(r -> told.ofMen.get(r)[0] == 3 ? 2 : 1).sum();
                boolean stays = braced(of, m) || (bracedToo >> m & 1) == 1;
                int nerve = nerve(of, m, fear) + (m == heartened ? 1 : 0);
                if (!running.contains(m) && !stays && nerve <= weight) {
                    running.add(m);
                    more = true;
                }
            }
        }
        return running;
    }

    private TreeSet<Integer> run(List<Event> of, TreeSet<Integer> start) {
        return run(of, start, -1, told.head[2], 0);
    }

    private boolean holds(List<Event> of, TreeSet<Integer> running) {
        return there(of).size() - running.size() >= told.head[0];
    }

    private int worst() {
        int most = there(log).stream().mapToInt(m -> run(log, set(1 << m)).size()).max().orElse(-1);
        return there(log).stream().filter(m -> run(log, set(1 << m)).size() == most).findFirst().orElse(-2);
    }

    /** The least of those that are right: fewest bits, then least ones; -2 without one. */
    private static int least(int all, IntPredicate right) {
        for (int count = 0; count <= 8; count++) {
            for (int bits = 0; bits <= 255; bits++) {
                if ((bits & ~all) == 0 && Integer.bitCount(bits) == count && right.test(bits)) {
                    return bits;
                }
            }
        }
        return -2;
    }

    private int breaks() {
        return least(bits(there(log)), bits -> !holds(log, run(log, set(bits))));
    }

    private int brace(int startBits) {
        TreeSet<Integer> start = start(startBits);
        return least(bits(there(log)), bits -> holds(log, run(log, start, -1, told.head[2], bits)));
    }

    private int toHearten(int startBits) {
        TreeSet<Integer> start = start(startBits);
        int usual = run(log, start).size();
        int best = -2;
        for (int fewer = 0; fewer < usual && best < 0; fewer++) {
            for (int m = men() - 1; m >= 0; m--) {
                if (has(there(log), m) && run(log, start, m, told.head[2], 0).size() == fewer) {
                    best = m;
                }
            }
        }
        return best;
    }

    private int fearFor(int startBits) {
        TreeSet<Integer> start = start(startBits);
        for (int fear = 0; fear <= 9; fear++) {
            if (holds(log, run(log, start, -1, fear, 0))) {
                return fear;
            }
        }
        return -2;
    }

    // ---- lots

    private List<Integer> lotSets(List<Event> of, int t) {
        List<Integer> sets = new ArrayList<>();
        int men = bits(menOf(of, t));
        for (int bits = 0; bits <= 255; bits++) {
            if ((bits & ~men) == 0 && Integer.bitCount(bits) == beans(of, t)) {
                sets.add(bits);
            }
        }
        return sets;
    }

    private List<Integer> lotSets(int t) {
        return lotSets(log, t);
    }

    private static List<Event> and(List<Event> of, Event e) {
        List<Event> more = new ArrayList<>(of);
        more.add(e);
        return more;
    }

    private static long half(Number upper, Number lower, int isLower) {
        BigInteger u = new BigInteger(upper.toString());
        BigInteger l = new BigInteger(lower.toString());
        if (u.signum() == 0 || l.signum() == 0) {
            return isLower;
        }
        return (isLower == 1 ? l : u).divide(u.gcd(l)).longValueExact();
    }

    private long drawn(int m, int lower) {
        present(m);
        List<Integer> sets = lotSets(tenOf(log, m));
        return half(sets.stream().filter(s -> (s >> m & 1) == 1).count(), sets.size(), lower);
    }

    private Object after(String name, int[] a) {
        theTen(a[0]);
        TreeSet<Integer> start = start(a[1]);
        List<Integer> sets = lotSets(lotTen(a[0]));
        int held = 0;
        int sum = 0;
        int worst = sets.get(0);
        int most = -1;
        for (int black : sets) {
            List<Event> then = and(log, new Event('L', a[0], black));
            TreeSet<Integer> running = run(then, start);
            held += holds(then, running) ? 1 : 0;
            sum += running.size();
            worst = running.size() > most ? black : worst;
            most = Math.max(most, running.size());
        }
        return name.equals("worstSet") ? (Object) worst : half(name.equals("holdsAfter") ? held : sum, sets.size(), a[2]);
    }

    private long mutinyAfter(int t, int lower) {
        List<Integer> sets = lotSets(lotTen(t));
        return half(sets.stream().filter(s -> mutiny(and(log, new Event('L', t, s)))).count(), sets.size(), lower);
    }

    private void ways(List<Event> of, int t, int chosen, TreeSet<Integer> start, long[] count) {
        if (t == told.tens.size()) {
            count[1]++;
            count[0] += holds(of, run(of, start)) && !mutiny(of) ? 1 : 0;
        } else if ((chosen >> t & 1) == 0 || menOf(of, t).isEmpty()) {
            ways(of, t + 1, chosen, start, count);
        } else {
            for (int black : lotSets(of, t)) {
                ways(and(of, new Event('L', t, black)), t + 1, chosen, start, count);
            }
        }
    }

    /** The tens, and how many of how many ways are GOOD. */
    private Long[] order(int startBits) {
        TreeSet<Integer> start = start(startBits);
        Long[] best = null;
        for (int count = 0; count <= 3; count++) {
            for (int chosen = 0; chosen < 1 << told.tens.size(); chosen++) {
                if (Integer.bitCount(chosen) == count) {
                    long[] is = new long[2];
                    ways(log, 0, chosen, start, is);
                    if (best == null || is[0] * best[2] > best[1] * is[1]) {
                        best = new Long[] {(long) chosen, is[0], is[1]};
                    }
                }
            }
        }
        return best;
    }

    // ---- tens

    private int together(IntPredicate of, int[] tens) {
        int count = 0;
        for (TreeSet<Integer> two : told.pairs) {
            count += of.test(two.first()) && of.test(two.last()) && tens[two.first()] == tens[two.last()] ? 1 : 0;
        }
        return count;
    }

    /** Friends, then the men's tens (-1 for who isn't there). */
    private int[] tens() {
        TreeSet<Integer> there = there(log);
        int tens = told.tens.size();
        int most = (there.size() + tens - 1) / tens;
        int[] best = null;
        int all = (int) Math.round(Math.pow(tens, there.size()));
        for (int code = 0; code < all; code++) {
            int[] row = new int[men()];
            int[] count = new int[tens];
            int left = code;
            for (int m : there.descendingSet()) {
                row[m] = left % tens;
                count[left % tens]++;
                left /= tens;
            }
            if (Arrays.stream(count).allMatch(c -> c <= most)) {
                int friends = together(there::contains, row);
                if (best == null || friends < best[0]) {
                    best = new int[1 + men()];
                    best[0] = friends;
                    System.arraycopy(row, 0, best, 1, men());
                }
            }
        }
        return best;
    }

    // ---- the helmet

    /** How likely all these draws are, by an honest helmet or a shaken one. */
    private BigInteger[] chance(List<int[]> draws, boolean shaken) {
        BigInteger u = BigInteger.ONE;
        BigInteger l = BigInteger.ONE;
        int white = told.helmet[0] - told.helmet[1];
        int black = told.helmet[1] - (shaken ? 1 : 0);
        boolean aside = shaken;
        for (int[] d : draws) {
            if (aside && d[0] == told.helmet[3]) {
                aside = false;
                u = u.multiply(BigInteger.valueOf(d[1]));
                continue;
            }
            int of = d[1] == 1 ? black : white;
            if (of <= 0) {
                return new BigInteger[] {BigInteger.ZERO, BigInteger.ONE};
            }
            u = u.multiply(BigInteger.valueOf(of));
            l = l.multiply(BigInteger.valueOf(black + white));
            black -= d[1];
            white -= 1 - d[1];
        }
        return new BigInteger[] {u, l};
    }

    private static BigInteger[] sum(BigInteger[] a, BigInteger[] b) {
        return new BigInteger[] {a[0].multiply(b[1]).add(b[0].multiply(a[1])), a[1].multiply(b[1])};
    }

    private BigInteger[] part(List<int[]> draws, boolean shaken) {
        BigInteger[] c = chance(draws, shaken);
        int of = shaken ? told.helmet[2] : 100 - told.helmet[2];
        return new BigInteger[] {c[0].multiply(BigInteger.valueOf(of)), c[1].multiply(BigInteger.valueOf(100))};
    }

    private BigInteger[] either(List<int[]> draws) {
        return sum(part(draws, true), part(draws, false));
    }

    private static long ratio(BigInteger[] a, BigInteger[] b, int lower) {
        return half(a[0].multiply(b[1]), a[1].multiply(b[0]), lower);
    }

    private long helmet(String name, int[] a) {
        List<int[]> draws = new ArrayList<>(told.draws);
        int lower = a[a.length - 1];
        if (name.equals("next") || name.equals("doubtIf")) {
            theMan(a[0]);
            if (draws.stream().anyMatch(d -> d[0] == a[0])) {
                throw new No(5);
            }
        }
        if (told.helmet[0] == 0) {
            throw new No(6);
        }
        if (name.equals("honest")) {
            BigInteger[] c = chance(draws, false);
            return half(c[0], c[1], lower);
        }
        if (name.equals("next")) {
            BigInteger[] ahead = either(draws);
            draws.add(new int[] {a[0], 1});
            return ratio(either(draws), ahead, lower);
        }
        if (name.equals("doubtIf")) {
            draws.add(new int[] {a[0], a[1]});
        }
        return ratio(part(draws, true), either(draws), lower);
    }

    // ---- who is gone

    private int gone(String name, int[] a) {
        if (name.equals("goneOf")) {
            theMan(a[0]);
        }
        if (told.gone[0] < 0) {
            throw new No(6);
        }
        List<Integer> sets = new ArrayList<>();
        for (int bits = 0; bits < 1 << men(); bits++) {
            int s = bits;
            if (Integer.bitCount(s) == told.gone[0]
                    && told.amongs.stream().allMatch(g -> (s >> g[0] & 1) + (s >> g[1] & 1) == g[2])) {
                sets.add(s);
            }
        }
        int[] left = new int[men()];
        for (int m = 0; m < men(); m++) {
            int man = m;
            int in = (int) sets.stream().filter(s -> (s >> man & 1) == 1).count();
            left[m] = Math.max(in, sets.size() - in);
        }
        boolean idle = sets.isEmpty() || men() == 0;
        int least = Arrays.stream(left).min().orElse(-2);
        switch (name) {
            case "gone": return sets.size();
            case "goneAt":
                if (a[0] < 0 || a[0] >= sets.size()) {
                    throw new No(1);
                }
                return sets.get(a[0]);
            case "goneOf": return (int) sets.stream().filter(s -> (s >> a[0] & 1) == 1).count();
            case "surelyGone": return sets.stream().reduce((x, y) -> x & y).orElse(0);
            case "askLeaves": return idle ? -2 : least;
            default:
                for (int m = 0; m < men() && !idle; m++) {
                    if (left[m] == least) {
                        return m;
                    }
                }
                return -2;
        }
    }

    // ---- two in line

    private int two(String name, int[] a) {
        if (a[0] < 0 || a[0] > 9) {
            throw new No(2);
        }
        int[][] has = {{5, -4}, {3 - a[0], 3 - a[0]}};
        if (name.equals("line")) {
            return a[3] == 1 ? has[a[2]][a[1]] : has[a[1]][a[2]];
        }
        List<Integer> rests = new ArrayList<>();
        for (int one = 0; one < 2; one++) {
            for (int other = 0; other < 2; other++) {
                if (has[one][other] >= has[1 - one][other] && has[other][one] >= has[1 - other][one]) {
                    rests.add(10 * one + other);
                }
            }
        }
        return name.equals("rests") ? rests.size() : rests.isEmpty() ? -2 : rests.get(0);
    }

    // ---- wars and acts

    private static int step(int seed) {
        return (int) ((75L * seed + 74) % 65537);
    }

    /** Who draws black, and the SEED behind it. */
    private int[] drawLot(List<Event> of, int t, int from) {
        List<Integer> left = new ArrayList<>(menOf(of, t));
        int s = from;
        int black = 0;
        for (int beans = beans(of, t); beans > 0; beans--) {
            s = step(s);
            black |= 1 << left.remove(s % left.size());
        }
        return new int[] {black, s};
    }

    private int[] wars(int from, int n) {
        if (from < 0 || from > 65536 || n < 0 || n > 60) {
            throw new No(2);
        }
        int[] is = new int[2 + men()];
        List<Event> then = log;
        int s = from;
        for (int war = 0; war < n; war++) {
            int t = war % told.tens.size();
            if (!mutiny(then) && !menOf(then, t).isEmpty()) {
                int[] lot = drawLot(then, t, s);
                s = lot[1];
                for (int m : set(lot[0])) {
                    is[2 + m] = war + 1;
                }
                then = and(then, new Event('L', t, lot[0]));
            }
            TreeSet<Integer> start = new TreeSet<>();
            if (!there(then).isEmpty()) {
                s = step(s);
                start.add(new ArrayList<>(there(then)).get(s % there(then).size()));
            }
            is[0] += holds(then, run(then, start)) ? 1 : 0;
        }
        is[1] = bits(there(then));
        return is;
    }

    private void act(Event e) {
        acts.add(new Shot(log, seed));
        if (acts.size() > 16) {
            acts.remove(0);
        }
        log = and(log, e);
    }

    private int lot(int t) {
        theTen(t);
        if (mutiny(log)) {
            throw new No(5);
        }
        int[] lot = drawLot(log, lotTen(t), seed);
        act(new Event('L', t, lot[0]));
        seed = lot[1];
        return lot[0];
    }

    private int braces(int m, int is) {
        theMan(m);
        if (!has(there(log), m) || braced(log, m) == (is == 1)) {
            throw new No(5);
        }
        act(new Event('B', m, is));
        return 1;
    }

    private int move(int m, int t) {
        theMan(m);
        theTen(t);
        if (!has(there(log), m) || tenOf(log, m) == t) {
            throw new No(5);
        }
        act(new Event('M', m, t));
        return 1;
    }

    private int setSeed(int v) {
        if (v < 0 || v > 65536) {
            throw new No(2);
        }
        seed = v;
        return 1;
    }

    private void restore(Shot shot) {
        log = shot.log;
        seed = shot.seed;
    }

    private int undo() {
        if (acts.isEmpty()) {
            throw new No(6);
        }
        restore(acts.remove(acts.size() - 1));
        return 1;
    }

    private int image() {
        if (images.size() == 3) {
            throw new No(3);
        }
        images.add(new Shot(log, seed));
        return images.size() - 1;
    }

    private int back(int i) {
        if (i < 0 || i >= images.size()) {
            throw new No(1);
        }
        restore(images.get(i));
        acts.clear();
        return 1;
    }

    // ---- what is told

    private int led(int i) {
        List<Integer> gone = new ArrayList<>(told == null ? set(0) : set((1 << men()) - 1));
        if (told != null) {
            gone.removeAll(there(log));
        }
        return i < 0 || i >= gone.size() ? Check.THROWN : gone.get(i);
    }

    private int size(int what) {
        if (what < 0 || what > 12) {
            return -1;
        }
        if (what == 12) {
            return tape.length();
        }
        if (told == null) {
            return 0;
        }
        int[] rest = {told.tens.size(), men(), told.pairs.size(), told.draws.size(), told.amongs.size(), seed, acts.size(), images.size()};
        return what < 4 ? told.head[what] : rest[what - 4];
    }
}
