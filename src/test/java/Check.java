import java.util.NoSuchElementException;

/** Counts answers that are not the ones due, and feeds texts. */
final class Check {
    /** A legion with every sort of LINE, on which most tests build. */
    static final String FULL = "legion holds 3 lots 3 fear 1 mutiny 3;ten alpha;ten beta;"
            + "man abe plain in alpha nerve 1;man ben veteran in alpha nerve 2;man cal coward in alpha nerve 2;"
            + "man dan officer in beta nerve 3;man eli plain in beta nerve 1;man fay plain in alpha nerve 7;"
            + "friend abe ben;friend abe dan;friend cal eli;"
            + "helmet beans 4 black 2 shaken 50 for ben;drew abe white;drew ben black;"
            + "gone 2;among abe ben 1;among cal dan 0";
    static final int THROWN = -1000;

    private int asked = 0;
    private int wrong = 0;

    void due(String call, long got, long want) {
        asked++;
        if (got != want) {
            wrong++;
            System.out.println(call + " answered " + got + ", due is " + want);
        }
    }

    void due(String call, boolean got, boolean want) {
        due(call, got ? 1 : 0, want ? 1 : 0);
    }

    /** A refused call: what it answers, and its TROUBLE. */
    void refused(String call, TenthBean x, long got, long want, int trouble) {
        due(call, got, want);
        due(call + ": trouble()", x.trouble(), trouble);
    }

    void refused(String call, TenthBean x, boolean got, int trouble) {
        refused(call, x, got ? 1 : 0, 0, trouble);
    }

    /** A call that isn't refused: what it answers, and that there is no TROUBLE. */
    void told(String call, TenthBean x, long got, long want) {
        refused(call, x, got, want, 0);
    }

    void odds(String call, long upper, long lower, long wantUpper, long wantLower) {
        due(call + " upper", upper, wantUpper);
        due(call + " lower", lower, wantLower);
    }

    int asked() {
        return asked;
    }

    int wrong() {
        return wrong;
    }

    void end() {
        System.out.println(asked - wrong + " answers as due, " + wrong + " not");
        if (wrong != 0 || asked == 0) {
            System.exit(1);
        }
    }

    /** Feeds a text, filled up with blanks to whole twenties. */
    static void feed(TenthBean x, String text) {
        StringBuilder all = new StringBuilder(text);
        while (all.length() % 20 != 0) {
            all.append(' ');
        }
        for (int at = 0; at < all.length(); at += 20) {
            x.feed(four(all, at), four(all, at + 4), four(all, at + 8), four(all, at + 12), four(all, at + 16));
        }
    }

    private static int four(StringBuilder all, int at) {
        int value = 0;
        for (int i = 0; i < 4; i++) {
            value = value << 8 | all.charAt(at + i) & 255;
        }
        return value;
    }

    static int tell(TenthBean x, String text) {
        feed(x, text);
        return x.legion(text.length());
    }

    static TenthBean legion(String text) {
        TenthBean x = new TenthBean();
        if (tell(x, text) == TenthBean.NONE) {
            throw new IllegalStateException("fault " + x.fault() + " at " + x.where() + " of: " + text);
        }
        return x;
    }

    static int led(TenthBean x, int i) {
        try {
            return x.led(i);
        } catch (NoSuchElementException e) {
            return THROWN;
        }
    }
}
