import java.io.IOException;
import java.nio.file.Files;
import java.nio.file.Path;

/** The sentences of the document: which test is of which, and whether one has none. */
final class Edges {
    /** In place of a promise's number: what the document says under "## Terms". */
    static final int TERMS = 0;
    private static final int PROMISES = 54;
    private static final Path DOC = Path.of("../shared/DOC.md");
    private static final int[] STRANGE = {Integer.MIN_VALUE, Integer.MIN_VALUE + 1, -3, -2, -1};

    private final Check check;
    private final String[] texts = new String[PROMISES + 1];
    private final boolean[][] quoted = new boolean[PROMISES + 1][];
    private String now = null;
    private int askedAhead = 0;
    private int wrongAhead = 0;

    Edges(Check check) throws IOException {
        this.check = check;
        String doc = Files.readString(DOC);
        texts[TERMS] = between(doc, "## Terms\n", "The constants:").replace("```text", "").replace("```", "");
        for (int p = 1; p <= PROMISES; p++) {
            String section = between(doc, "## Promise " + p + ": ", "\n## ");
            texts[p] = section.substring(section.indexOf("`: ") + 3);
        }
        for (int p = 0; p <= PROMISES; p++) {
            texts[p] = texts[p].replaceAll("\\s+", " ");
            quoted[p] = new boolean[texts[p].length()];
        }
    }

    private static String between(String doc, String from, String to) {
        int at = doc.indexOf(from) + from.length();
        return doc.substring(at, doc.indexOf(to, at));
    }

    /** What is asked from now on is a test of this sentence. */
    void sentence(int promise, String quote) {
        endSentence();
        now = (promise == TERMS ? "Terms" : "promise " + promise) + ": " + quote;
        int at = texts[promise].indexOf(quote);
        if (at < 0 || texts[promise].indexOf(quote, at + 1) >= 0) {
            check.due("the document has it once: " + now, false, true);
            return;
        }
        for (int i = at; i < at + quote.length(); i++) {
            quoted[promise][i] = true;
        }
        askedAhead = check.asked();
        wrongAhead = check.wrong();
    }

    private void endSentence() {
        if (now != null && check.asked() == askedAhead) {
            check.due("no test of " + now, false, true);
        }
        if (now != null && check.wrong() > wrongAhead) {
            System.out.println("  these are tests of " + now);
        }
        now = null;
    }

    /** No word of the document's promises stands outside the sentences that were tested. */
    void end() {
        endSentence();
        for (int p = 0; p <= PROMISES; p++) {
            StringBuilder rest = new StringBuilder();
            for (int i = 0; i < texts[p].length(); i++) {
                rest.append(quoted[p][i] ? ' ' : texts[p].charAt(i));
            }
            boolean none = rest.chars().noneMatch(Character::isLetterOrDigit);
            check.due((p == TERMS ? "Terms" : "promise " + p) + ", without a test:"
                    + rest.toString().replaceAll(" +", " "), none, true);
        }
    }

    /** Numbers that are none of 0 to most. */
    static int[] outside(int most) {
        int[] all = new int[STRANGE.length + 4];
        System.arraycopy(STRANGE, 0, all, 0, STRANGE.length);
        all[STRANGE.length] = most + 1;
        all[STRANGE.length + 1] = most + 2;
        all[STRANGE.length + 2] = Integer.MAX_VALUE - 1;
        all[STRANGE.length + 3] = Integer.MAX_VALUE;
        return all;
    }

    // ---- texts

    static String head(int holds, int lots, int fear, int mutiny) {
        return "legion holds " + holds + " lots " + lots + " fear " + fear + " mutiny " + mutiny;
    }

    /** LINES behind one another, each with the ; ahead of it. */
    static String lines(String... all) {
        StringBuilder text = new StringBuilder();
        for (String line : all) {
            text.append(';').append(line);
        }
        return text.toString();
    }

    /** So many men of a kind and NERVE in a ten, named by letters from this one on. */
    static String men(char first, int count, String kind, String ten, int nerve) {
        StringBuilder text = new StringBuilder();
        for (int i = 0; i < count; i++) {
            text.append(";man ").append((char) (first + i)).append(' ').append(kind).append(" in ").append(ten)
                    .append(" nerve ").append(nerve);
        }
        return text.toString();
    }

    /** Plain men of ten t with these NERVES, named by letters from a on. */
    static String nerves(int... all) {
        StringBuilder text = new StringBuilder();
        for (int i = 0; i < all.length; i++) {
            text.append(men((char) ('a' + i), 1, "plain", "t", all[i]));
        }
        return text.toString();
    }

    /** SEED so that the next DRAW is this number. */
    static void drawNext(TenthBean x, int draw) {
        for (int seed = 0; seed < 65537; seed++) {
            if ((75L * seed + 74) % 65537 == draw) {
                x.seed(seed);
            }
        }
    }

    /** A LOT of one bean by which the k-th (from 0 on) of the ten's men who are there is gone. */
    static int lotOf(TenthBean x, int t, int k) {
        drawNext(x, k);
        return x.lot(t);
    }

    /** A legion of six men behind ACTS of all sorts, with two IMAGES. */
    static TenthBean used() {
        TenthBean x = Check.legion(Check.FULL);
        x.braces(0, true);
        x.image();
        x.lot(0);
        x.lot(1);
        x.move(1, 1);
        x.image();
        return x;
    }

    /** What can be seen of a legion of six men in two tens. */
    static int[] state(TenthBean x) {
        int[] all = new int[13 + 6 * 8 + 2 * 3 + 6];
        int at = 0;
        for (int what = 0; what <= 12; what++) {
            all[at++] = x.size(what);
        }
        for (int m = 0; m < 6; m++) {
            for (int what = 0; what < 8; what++) {
                all[at++] = x.man(m, what);
            }
        }
        for (int t = 0; t < 2; t++) {
            for (int what = 0; what < 3; what++) {
                all[at++] = x.ten(t, what);
            }
        }
        all[at++] = x.there();
        all[at++] = x.anger();
        all[at++] = x.gone();
        all[at++] = (int) x.doubt(true);
        all[at++] = x.wars(3, 9);
        all[at] = x.worst();
        return all;
    }
}
