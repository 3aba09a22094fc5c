import java.lang.reflect.InvocationTargetException;
import java.lang.reflect.Method;
import java.util.ArrayList;
import java.util.Arrays;
import java.util.Comparator;
import java.util.List;
import java.util.NoSuchElementException;
import java.util.Random;

/** All promises: runs of chance calls, on TenthBean and on SlowLegion, have the same answers. */
public final class ModelTest {
    private static final int RUNS = 400;
    private static final int CALLS = 512;
    private static final int TEXTS = 15;
    private static final String[] KINDS = {"plain", "veteran", "coward", "officer"};

    private final Random random;
    private final List<Method> calls = new ArrayList<>();
    private final List<String> told = new ArrayList<>();
    private TenthBean fast;
    private SlowLegion slow;
    private int made;

    private ModelTest(long seed) {
        random = new Random(seed);
        for (Method m : TenthBean.class.getDeclaredMethods()) {
            if (java.lang.reflect.Modifier.isPublic(m.getModifiers())) {
                calls.add(m);
            }
        }
        calls.sort(Comparator.comparing(Method::getName));
    }

    public static void main(String[] args) throws Exception {
        long from = args.length > 0 ? Long.parseLong(args[0]) : 0;
        int runs = args.length > 1 ? Integer.parseInt(args[1]) : RUNS;
        for (long seed = from; seed < from + runs; seed++) {
            new ModelTest(seed).run();
            new ModelTest(~seed).spoiledTexts();
        }
        System.out.println(runs + " runs of chance calls as due");
    }

    private void run() throws Exception {
        fast = new TenthBean();
        slow = new SlowLegion();
        made = 0;
        if (random.nextInt(10) == 0) {
            ask(10);
        }
        while (made < CALLS - 80) {
            String text = text();
            boolean broken = random.nextInt(3) == 0;
            tell(broken ? spoil(text) : text);
            ask(broken ? 6 : 30 + random.nextInt(300));
        }
    }

    /** FAULTS of all sorts. */
    private void spoiledTexts() throws Exception {
        fast = new TenthBean();
        slow = new SlowLegion();
        for (int i = 0; i < TEXTS; i++) {
            tell(spoil(text()));
        }
    }

    // ---- texts

    private String text() {
        List<String> lines = new ArrayList<>();
        lines.add("legion holds " + random.nextInt(random.nextBoolean() ? 9 : 5) + " lots " + (2 + random.nextInt(random.nextBoolean() ? 5 : 2))
                + " fear " + random.nextInt(5) + " mutiny " + (1 + random.nextInt(random.nextBoolean() ? 30 : 4)));
        int tens = 1 + random.nextInt(3);
        int men = random.nextInt(10) == 0 ? random.nextInt(3) : 3 + random.nextInt(6);
        for (int t = 0; t < tens; t++) {
            lines.add("ten t" + (char) ('a' + t));
        }
        int most = 1 + random.nextInt(8);
        for (int m = 0; m < men; m++) {
            lines.add("man " + name(m) + " " + KINDS[random.nextInt(4)] + " in t" + (char) ('a' + random.nextInt(tens))
                    + " nerve " + random.nextInt(most));
        }
        if (men >= 2) {
            addPairs(lines, men);
        }
        if (men >= 1 && random.nextInt(4) > 0) {
            addHelmet(lines, men);
        }
        if (random.nextInt(4) > 0) {
            lines.add("gone " + random.nextInt(men + 1));
            for (int i = random.nextInt(6); i > 0 && men >= 2; i--) {
                int one = random.nextInt(men);
                int other = (one + 1 + random.nextInt(men - 1)) % men;
                lines.add("among " + name(one) + " " + name(other) + " " + random.nextInt(3));
            }
        }
        return String.join(random.nextBoolean() ? ";" : " ; ", lines);
    }

    private static String name(int m) {
        return m == 3 ? "plain" : m == 5 ? "abcdefgh" : "" + (char) ('a' + m);
    }

    private void addPairs(List<String> lines, int men) {
        List<String> pairs = new ArrayList<>();
        for (int one = 0; one < men; one++) {
            for (int other = 0; other < one; other++) {
                boolean turned = random.nextBoolean();
                pairs.add("friend " + name(turned ? one : other) + " " + name(turned ? other : one));
            }
        }
        java.util.Collections.shuffle(pairs, random);
        lines.addAll(pairs.subList(0, Math.min(pairs.size(), random.nextInt(9))));
    }

    private void addHelmet(List<String> lines, int men) {
        int beans = 1 + random.nextInt(12);
        int black = 1 + random.nextInt(beans);
        int[] shaken = {0, 100, 50, random.nextInt(101)};
        lines.add("helmet beans " + beans + " black " + black + " shaken " + shaken[random.nextInt(4)] + " for " + name(random.nextInt(men)));
        List<Integer> all = new ArrayList<>();
        for (int m = 0; m < men; m++) {
            all.add(m);
        }
        java.util.Collections.shuffle(all, random);
        int white = beans - black;
        for (int i = random.nextInt(7); i > 0 && !all.isEmpty() && black + white > 0; i--) {
            boolean isBlack = white == 0 || black > 0 && random.nextBoolean();
            black -= isBlack ? 1 : 0;
            white -= isBlack ? 0 : 1;
            lines.add("drew " + name(all.remove(0)) + " " + (isBlack ? "black" : "white"));
        }
    }

    /** A token or a byte left out, doubled, or put in another's place. */
    private String spoil(String text) {
        if (random.nextInt(3) == 0) {
            int at = random.nextInt(text.length());
            String put = "" + " ;a9Z\n\u00ff0mz".charAt(random.nextInt(10));
            return text.substring(0, at) + put + text.substring(at + random.nextInt(2));
        }
        List<String> tokens = new ArrayList<>(Arrays.asList(text.replace(";", " ; ").trim().split(" +")));
        for (int i = random.nextInt(3); i >= 0; i--) {
            int at = random.nextInt(tokens.size());
            int from = random.nextInt(tokens.size());
            switch (random.nextInt(5)) {
                case 0 -> tokens.remove(at);
                case 1 -> {
                    if (sort(tokens.get(at)) == sort(tokens.get(from))) {
                        tokens.set(at, tokens.get(from));
                    } else {
                        tokens.add(at, tokens.get(from));
                    }
                }
                case 2 -> tokens.set(at, tokens.get(from));
                case 3 -> tokens.set(at, "" + random.nextInt(40));
                default -> {
                    List<String> lines = new ArrayList<>(Arrays.asList(String.join(" ", tokens).split(" ; ")));
                    lines.add(random.nextInt(lines.size() + 1), lines.get(random.nextInt(lines.size())));
                    tokens = new ArrayList<>(Arrays.asList(String.join(" ; ", lines).split(" +")));
                }
            }
        }
        return String.join(" ", tokens);
    }

    private static int sort(String token) {
        return Character.isLetter(token.charAt(0)) ? token.length() > 1 ? 0 : 1 : Character.isDigit(token.charAt(0)) ? 2 : 3;
    }

    private void tell(String text) throws Exception {
        told.clear();
        told.add(text);
        StringBuilder all = new StringBuilder(text.length() > 1000 ? text.substring(0, 1000) : text);
        int n = all.length();
        while (all.length() % 20 != 0) {
            all.append(' ');
        }
        for (int at = 0; at < all.length(); at += 20) {
            int[] five = new int[5];
            for (int i = 0; i < 20; i++) {
                five[i / 4] = five[i / 4] << 8 | all.charAt(at + i) & 255;
            }
            same(named("feed"), five);
        }
        same(named("legion"), n);
        same(named("fault"));
        same(named("where"));
    }

    // ---- calls

    private Method named(String name) {
        return calls.stream().filter(m -> m.getName().equals(name)).findFirst().orElseThrow();
    }

    private void ask(int count) throws Exception {
        for (int i = 0; i < count && made < CALLS; i++) {
            Method m = random.nextInt(6) == 0
                    ? named(new String[] {"lot", "lot", "braces", "move", "move", "undo", "seed"}[random.nextInt(7)])
                    : calls.get(random.nextInt(calls.size()));
            if (m.getName().equals("feed") || m.getName().equals("legion") && random.nextInt(8) > 0) {
                continue;
            }
            int[] a = new int[m.getParameterCount()];
            for (int k = 0; k < a.length; k++) {
                a[k] = m.getParameterTypes()[k] == boolean.class ? random.nextInt(2) : number(m.getName(), k);
            }
            same(m, a);
        }
    }

    private int number(String name, int k) {
        if (random.nextInt(25) == 0) {
            return new int[] {-1, -2, 3, 8, 9, 10, 60, 61, 65536, 65537, 1 << 30, Integer.MIN_VALUE, Integer.MAX_VALUE}[random.nextInt(13)];
        }
        boolean start = List.of("runs", "holds", "brace", "toHearten", "fearFor", "order", "orderOdds").contains(name)
                || k == 1 && List.of("holdsAfter", "runsAfter", "worstSet").contains(name);
        if (start) {
            slow.ask("there");
            return fast.there() & random.nextInt(256) & (random.nextBoolean() ? 255 : random.nextInt(256));
        }
        boolean tenth = List.of("ten", "sets", "holdsAfter", "mutinyAfter", "runsAfter", "worstSet", "lot").contains(name) && k == 0
                || name.equals("move") && k == 1;
        if (tenth) {
            return random.nextInt(3);
        }
        if (List.of("wars", "warsLeft", "warsOf", "seed").contains(name)) {
            boolean man = name.equals("warsOf") && k == 0;
            boolean count = name.equals("warsOf") ? k == 2 : k == 1;
            return man ? random.nextInt(8) : count ? random.nextInt(20) : random.nextInt(65537);
        }
        if (name.equals("goneAt")) {
            return random.nextInt(random.nextBoolean() ? 4 : 40);
        }
        return random.nextInt(name.equals("size") ? 13 : 8);
    }

    private Object answer(Method m, int[] a) throws Exception {
        Object[] args = new Object[a.length];
        for (int k = 0; k < a.length; k++) {
            args[k] = m.getParameterTypes()[k] == boolean.class ? (Object) (a[k] == 1) : (Object) a[k];
        }
        try {
            Object is = m.invoke(fast, args);
            return is instanceof Boolean b ? (b ? 1L : 0L) : ((Number) is).longValue();
        } catch (InvocationTargetException e) {
            if (e.getCause() instanceof NoSuchElementException && m.getName().equals("led")) {
                return (long) Check.THROWN;
            }
            return e.getCause();
        }
    }

    private void same(Method m, int... a) throws Exception {
        made++;
        Object want = ((Number) slow.ask(m.getName(), a)).longValue();
        Object got = answer(m, a);
        told.add(m.getName() + Arrays.toString(a) + " " + got);
        Object wantTrouble = slow.ask("trouble");
        if (!want.equals(got) || !wantTrouble.equals(fast.trouble())) {
            System.out.println(String.join("\n", told));
            System.out.println("due is " + want + ", trouble " + wantTrouble + " (not " + fast.trouble() + ")");
            System.exit(1);
        }
    }
}
