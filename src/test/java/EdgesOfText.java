/** Terms I, promises 1 to 5: each sentence that names a boundary case. */
final class EdgesOfText {
    private static final String HEAD = Edges.head(1, 2, 0, 1);
    private static final String TEN = HEAD + ";ten t";
    private static final String TWO = TEN + ";man a plain in t nerve 0;man b coward in t nerve 0";
    private static final String FOUR = TWO + ";man c plain in t nerve 1;man d plain in t nerve 1";
    private static final String EIGHT = TEN + Edges.men('a', 8, "plain", "t", 0);
    private static final String HELMET = FOUR + ";helmet beans 4 black 2 shaken 10 for a";
    private static final String[] KEPT_WORDS = {"legion", "ten", "man", "friend", "helmet", "drew", "gone", "among"};

    private final Check check;
    private final Edges edges;

    EdgesOfText(Check check, Edges edges) {
        this.check = check;
        this.edges = edges;
    }

    void run() {
        tapeOfThousand();
        blanks();
        words();
        wholes();
        semicolons();
        linesOfText();
        headLine();
        tenLine();
        manLine();
        friendLine();
        helmetLine();
        drewLine();
        goneLine();
        amongLine();
        names();
        firstFault();
        form();
        otherFaults();
        newObject();
        feed();
        legion();
        fault();
        where();
    }

    private void sound(String text, int men) {
        TenthBean x = new TenthBean();
        check.told("[" + text + "]", x, Check.tell(x, text), men);
        check.due("[" + text + "] fault", x.fault(), 0);
    }

    private void faulty(String text, int number, int place) {
        TenthBean x = new TenthBean();
        check.refused("[" + text + "]", x, Check.tell(x, text), -1, 4);
        check.due("[" + text + "] fault", x.fault(), number);
        check.due("[" + text + "] where", x.where(), place);
    }

    /** A FAULT at what stands behind this text, whether it ends the text or not. */
    private void faultyAt(String ahead, String token, int number) {
        faulty(ahead + token, number, ahead.length());
        faulty(ahead + token + " ?", number, ahead.length());
    }

    private static void feedBlanks(TenthBean x) {
        x.feed(0x20202020, 0x20202020, 0x20202020, 0x20202020, 0x20202020);
    }

    // ---- Terms I

    private void tapeOfThousand() {
        edges.sentence(Edges.TERMS, "I. THE TEXT of a LEGION (THE TAPE has 1,000 bytes;");
        StringBuilder text = new StringBuilder(TWO);
        while (text.length() < 1000) {
            text.append(' ');
        }
        sound(text.toString(), 2);
        text.replace(1000 - 6, 1000, ";ten u");
        TenthBean x = new TenthBean();
        check.told("up to the last byte", x, Check.tell(x, text.toString()), 2);
        check.due("told by the last byte", x.size(4), 2);
    }

    private void blanks() {
        edges.sentence(Edges.TERMS, "blanks, 32, part TOKENS and mean nothing else;");
        sound("   " + TWO + "   ", 2);
        sound(TWO.replace(" ", "     ").replace(";", "  ;  "), 2);
        sound("legion holds1lots2fear0mutiny1;ten t;man a plain in t nerve0", 1);
        faultyAt("", "leg ion holds", 1);
        faultyAt("legion holds 1 ", "lo ts 2", 1);
        faultyAt("legion holds ", "12", 4);
        faultyAt("legion holds 1 ", "2 lots", 1);
        for (int b : new int[] {0, 9, 10, 13, 31, 33, 160}) {
            faulty(HEAD + ";ten" + (char) b + "t", 1, HEAD.length() + 4);
        }
    }

    private void words() {
        edges.sentence(Edges.TERMS, "TOKENS: WORDS of 1 to 8 small letters that stand together,");
        sound(HEAD + ";ten a;ten z;ten abcdefgh;man zyxwvuts plain in abcdefgh nerve 0", 1);
        faultyAt(HEAD + ";ten ", "abcdefghi", 1);
        faultyAt(HEAD + ";ten ", "abcdefghijklmnopqrstuvwxyz", 1);
        faultyAt("", "legionlegion", 1);
        faultyAt(HEAD + ";ten ", "A", 1);
        faultyAt(HEAD + ";ten ", "Z", 1);
        for (int b : new int[] {96, 123, 95, 225, 255, 128}) {
            faulty(HEAD + ";ten " + (char) b, 1, HEAD.length() + 5);
            faulty(HEAD + ";ten t" + (char) b, 1, HEAD.length() + 6);
        }
        faulty(HEAD + ";ten tT", 1, HEAD.length() + 6);
        sound(TEN + "a;ten tab;ten tabs", 0);
    }

    private void wholes() {
        edges.sentence(Edges.TERMS, "WHOLES of 1 to 3 digits that do,");
        sound("legion holds 000 lots 02 fear 4 mutiny 030;ten t", 0);
        faultyAt("legion holds ", "0000", 1);
        faultyAt("legion holds ", "0001", 1);
        faultyAt("legion holds ", "9999", 1);
        faultyAt("legion holds ", "4294967297", 1);
        faultyAt("legion holds ", "999", 4);
        for (int b : new int[] {47, 58, 45, 43, 46, 178}) {
            faulty("legion holds " + (char) b + "1", 1, 13);
            faulty("legion holds 1" + (char) b, 1, 14);
        }
    }

    private void semicolons() {
        edges.sentence(Edges.TERMS, "single ones of ;):");
        sound(HEAD + ";ten t ; ten u;ten v", 0);
        faulty(HEAD + ";;ten t", 1, HEAD.length() + 1);
        faulty(TEN + ";;", 1, TEN.length() + 1);
        faulty(TEN + "; ;ten u", 1, TEN.length() + 2);
        faulty(TEN + ":ten u", 1, TEN.length());
        faulty(TEN + ",ten u", 1, TEN.length());
    }

    private void linesOfText() {
        edges.sentence(Edges.TERMS, "LINE {; LINE}. LINE, one of:");
        sound(TEN, 0);
        faulty("", 1, 0);
        faulty(";" + TEN, 1, 0);
        faulty(TEN + ";", 1, TEN.length() + 1);
        faultyAt(HEAD + " ", "ten t", 1);
        faultyAt(TEN + ";", "a", 1);
        faultyAt(TEN + ";", "7", 1);
        faultyAt(TEN + ";", "holds 1", 1);
    }

    private void headLine() {
        edges.sentence(Edges.TERMS, "legion holds WHOLE lots WHOLE fear WHOLE mutiny WHOLE (0 .. 8 men; one in 2 .. 6; 0 .. 4; 1 .. 30),");
        int[][] most = {{0, 2, 0, 1}, {8, 6, 4, 30}};
        for (int[] h : most) {
            TenthBean x = Check.legion(Edges.head(h[0], h[1], h[2], h[3]) + ";ten t");
            for (int what = 0; what < 4; what++) {
                check.due("size(" + what + ")", x.size(what), h[what]);
            }
        }
        String[] ahead = {"legion holds ", "legion holds 8 lots ", "legion holds 8 lots 6 fear ", "legion holds 8 lots 6 fear 4 mutiny "};
        int[][] bad = {{9, 10, 999}, {0, 1, 7}, {5, 6}, {0, 31}};
        for (int i = 0; i < 4; i++) {
            for (int b : bad[i]) {
                faultyAt(ahead[i], "" + b, 4);
            }
        }
        edges.sentence(Edges.TERMS, "ahead of all others");
        faultyAt("", "ten t;" + HEAD, 6);
        faultyAt("", "gone 0;" + TEN, 6);
    }

    private void tenLine() {
        edges.sentence(Edges.TERMS, "ten NAME (up to 3)");
        sound(TEN, 0);
        sound(TEN + ";ten u;ten v", 0);
        faultyAt(TEN + ";ten u;ten v;", "ten w", 5);
        faultyAt(TEN + " ", "u", 1);
        faulty(HEAD + ";ten", 1, HEAD.length() + 4);
        faulty(HEAD + ";ten 1", 1, HEAD.length() + 5);
    }

    private void manLine() {
        edges.sentence(Edges.TERMS, "man NAME KIND in TEN nerve WHOLE (KIND: plain, veteran, coward, or officer;");
        String[] kinds = {"plain", "veteran", "coward", "officer"};
        for (int kind = 0; kind < 4; kind++) {
            TenthBean x = Check.legion(TEN + ";man a " + kinds[kind] + " in t nerve 0");
            check.told(kinds[kind], x, x.man(0, 0), kind);
        }
        faultyAt(TEN + ";man a ", "captain", 1);
        faultyAt(TEN + ";man a ", "in t", 1);
        faultyAt(TEN + ";man a ", "plains", 1);
        faultyAt(TEN + ";man a ", "plai", 1);
        faultyAt(TEN + ";man a plain in t nerve 0 ", "0", 1);
        edges.sentence(Edges.TERMS, "0 .. 7; up to 8)");
        TenthBean y = Check.legion(TEN + ";man a plain in t nerve 0;man b plain in t nerve 7");
        check.told("nerve 0", y, y.man(0, 2), 0);
        check.told("nerve 7", y, y.man(1, 2), 7);
        faultyAt(TEN + ";man a plain in t nerve ", "8", 4);
        faultyAt(TEN + ";man a plain in t nerve ", "008", 4);
        sound(TEN, 0);
        sound(EIGHT, 8);
        faultyAt(EIGHT + ";", "man i plain in t nerve 0", 5);
    }

    private void friendLine() {
        edges.sentence(Edges.TERMS, "friend MAN MAN (unlike; once in whatever order; up to 8)");
        faultyAt(TWO + ";friend a ", "a", 3);
        faultyAt(TWO + ";friend a b;friend a ", "b", 3);
        faultyAt(TWO + ";friend a b;friend b ", "a", 3);
        String eight = EIGHT + ";friend a b;friend b c;friend c d;friend d e;friend e f;friend f g;friend g h;friend h a";
        TenthBean x = Check.legion(eight);
        check.due("eight twos", x.size(6), 8);
        check.told("a's: b and h", x, x.man(0, 4), 130);
        check.told("h's: a and g", x, x.man(7, 4), 65);
        faultyAt(eight + ";", "friend a c", 5);
        faultyAt(eight + ";", "friend a b", 5);
    }

    private void helmetLine() {
        edges.sentence(Edges.TERMS, "helmet beans WHOLE black WHOLE shaken WHOLE for MAN (1 .. 12; 1 to beans; 0 .. 100 in a hundred; once),");
        sound(TWO + ";helmet beans 1 black 1 shaken 0 for a", 2);
        sound(TWO + ";helmet beans 12 black 1 shaken 100 for b", 2);
        sound(TWO + ";helmet beans 12 black 12 shaken 50 for b", 2);
        faultyAt(TWO + ";helmet beans ", "0", 4);
        faultyAt(TWO + ";helmet beans ", "13", 4);
        faultyAt(TWO + ";helmet beans 12 black ", "0", 4);
        faultyAt(TWO + ";helmet beans 12 black ", "13", 4);
        faultyAt(TWO + ";helmet beans 1 black ", "2", 4);
        faultyAt(TWO + ";helmet beans 1 black 1 shaken ", "101", 4);
        faultyAt(HELMET + ";", "helmet beans 1 black 1 shaken 0 for a", 3);
    }

    private void drewLine() {
        edges.sentence(Edges.TERMS, "or drew MAN black, or drew MAN white (each once, behind the helmet; no more of a colour than there are beans of it; up to 6 of both)");
        faultyAt(HELMET + ";drew a black;drew ", "a white", 3);
        faultyAt(FOUR + ";", "drew a black;helmet beans 4 black 2 shaken 10 for a", 6);
        sound(HELMET + ";drew a black;drew b black;drew c white;drew d white", 4);
        faultyAt(HELMET + ";drew a black;drew b black;drew c ", "black", 7);
        faultyAt(HELMET + ";drew a white;drew b white;drew c ", "white", 7);
        faultyAt(TWO + ";helmet beans 1 black 1 shaken 0 for a;drew a ", "white", 7);
        faultyAt(HELMET + ";drew a ", "blacks", 1);
        String six = EIGHT + ";helmet beans 12 black 6 shaken 0 for a;drew a black;drew b white;drew c black;drew d white;drew e black;drew f white";
        TenthBean x = Check.legion(six);
        check.due("six", x.size(7), 6);
        faultyAt(six + ";", "drew g black", 5);
        faultyAt(six + ";", "drew a black", 5);
    }

    private void goneLine() {
        edges.sentence(Edges.TERMS, "gone WHOLE (how many of all men, 0 to as many as are told ahead; once),");
        TenthBean none = Check.legion(TWO + ";gone 0");
        check.told("none gone", none, none.gone(), 1);
        TenthBean all = Check.legion(TWO + ";gone 2");
        check.told("all gone", all, all.gone(), 1);
        faultyAt(TWO + ";gone ", "3", 4);
        faultyAt(TEN + ";gone ", "1;man a plain in t nerve 0", 4);
        sound(TEN + ";gone 0;man a plain in t nerve 0", 1);
        faultyAt(TWO + ";gone 0;", "gone 0", 3);
        TenthBean later = Check.legion(TWO + ";gone 1;man c plain in t nerve 0");
        check.told("of all men, those told later too", later, later.gone(), 3);
    }

    private void amongLine() {
        edges.sentence(Edges.TERMS, "or among MAN MAN WHOLE (unlike; 0 .. 2; behind the gone; up to 5)");
        faultyAt(TWO + ";gone 1;among a ", "a 1", 3);
        sound(TWO + ";gone 1;among a b 0;among b a 2", 2);
        faultyAt(TWO + ";gone 1;among a b ", "3", 4);
        faultyAt(TWO + ";", "among a b 1;gone 1", 6);
        String five = TWO + ";gone 1;among a b 1;among a b 1;among b a 1;among b a 1;among a b 0";
        TenthBean x = Check.legion(five);
        check.due("five, the same too", x.size(8), 5);
        check.told("the fifth counts", x, x.gone(), 0);
        faultyAt(five + ";", "among a b 1", 5);
    }

    private void names() {
        edges.sentence(Edges.TERMS, "NAMES are WORDS but legion, ten, man, friend, helmet, drew, gone, among; each told once, ahead of its use.");
        for (String word : KEPT_WORDS) {
            faultyAt(HEAD + ";ten ", word, 1);
            faultyAt(TEN + ";man ", word, 1);
            faultyAt(TEN + ";man a plain in ", word, 1);
            faultyAt(TWO + ";friend ", word, 1);
            faultyAt(TWO + ";friend a ", word, 1);
            faultyAt(TWO + ";helmet beans 1 black 1 shaken 0 for ", word, 1);
            faultyAt(HELMET + ";drew ", word, 1);
            faultyAt(TWO + ";gone 1;among ", word, 1);
        }
        for (String word : new String[] {"holds", "plain", "in", "nerve", "black", "tens", "te", "lots", "beans", "for", "drews"}) {
            sound(HEAD + ";ten " + word, 0);
            sound(TEN + ";man " + word + " plain in t nerve 0;gone 1", 1);
        }
        faultyAt(TEN + ";ten ", "t", 3);
        faultyAt(TEN + ";man ", "t plain", 3);
        sound(HEAD + ";ten a;ten aa;ten aaaaaaaa;man aaaaaaa plain in aa nerve 0;man ab plain in a nerve 0;man ba plain in a nerve 0", 3);
        faultyAt(HEAD + ";man a plain in ", "t nerve 0;ten t", 2);
        faultyAt(TWO + ";friend a ", "c;man c plain in t nerve 0", 2);
    }

    // ---- FAULTS

    private void firstFault() {
        edges.sentence(Edges.TERMS, "FAULTS, the first that is met from the left, of one place the least number:");
        faulty("legion holds 9 lots 1 ?", 4, 13);
        faulty(HELMET + ";drew a black;drew b black;drew c black;drew c black;ten ten", 7, (HELMET + ";drew a black;drew b black;drew c ").length());
        faulty(TEN + ";ten t;ten ten", 3, TEN.length() + 5);
        faulty("drew a black;legion", 6, 0);
        faultyAt(HEAD + ";ten ", "ten", 1);
        faultyAt(TWO + ";friend ", "ten", 1);
        faultyAt("legion holds ", "1234", 1);
        faulty(HEAD + ";", 1, HEAD.length() + 1);
        faulty("legion holds 1 lots 2", 1, 21);
    }

    private void form() {
        edges.sentence(Edges.TERMS, "1 FORM: the first byte that begins no TOKEN,");
        for (int b = 0; b < 256; b++) {
            boolean token = b == ' ' || b == ';' || b >= '0' && b <= '9' || b >= 'a' && b <= 'z';
            if (!token) {
                faulty(HEAD + (char) b, 1, HEAD.length());
            }
        }
        faulty("?", 1, 0);
        faulty(TEN + " !", 1, TEN.length() + 1);
        edges.sentence(Edges.TERMS, "or TOKEN with which no LEGION goes on");
        String[] ahead = {"legion", "holds", "1", "lots", "2", "fear", "0", "mutiny", "1", ";", "ten", "t", ";", "man", "a", "plain", "in", "t",
            "nerve", "0", ";", "man", "b", "plain", "in", "t", "nerve", "0", ";", "friend", "a", "b", ";", "helmet", "beans", "2", "black",
            "1", "shaken", "0", "for", "a", ";", "drew", "a", "black", ";", "gone", "0", ";", "among", "a", "b", "0"};
        StringBuilder text = new StringBuilder();
        for (String token : ahead) {
            String other = token.equals(";") ? "7" : Character.isDigit(token.charAt(0)) ? "x" : "7";
            faultyAt(text.toString(), other, 1);
            faultyAt(text.toString(), "?", 1);
            text.append(token).append(' ');
        }
        sound(text.toString(), 2);
        faultyAt(text.toString(), "x", 1);
        edges.sentence(Edges.TERMS, "(the end: its place).");
        text.setLength(0);
        for (int i = 0; i < ahead.length - 1; i++) {
            text.append(ahead[i]);
            boolean whole = ahead[i + 1].equals(";") && i > 10;
            if (!whole) {
                boolean bare = i == 8;
                faulty(text.toString(), bare ? 6 : 1, text.length());
                faulty(text + "  ", bare ? 6 : 1, text.length() + 2);
            }
            text.append(' ');
        }
    }

    private void otherFaults() {
        edges.sentence(Edges.TERMS, "2 a NAME that isn't told, or is of another sort than must stand there; at it.");
        String[] forMan = {TWO + ";friend ", TWO + ";friend a ", TWO + ";helmet beans 1 black 1 shaken 0 for ", HELMET + ";drew ",
            TWO + ";gone 1;among ", TWO + ";gone 1;among a "};
        for (String ahead : forMan) {
            faultyAt(ahead, "x", 2);
            faultyAt(ahead, "t", 2);
            faultyAt(ahead, "aa", 2);
        }
        for (String name : new String[] {"x", "a", "c", "tt"}) {
            faultyAt(TWO + ";man c plain in ", name, 2);
        }
        edges.sentence(Edges.TERMS, "3 a NAME told again; at it;");
        for (String name : new String[] {"t", "a", "b"}) {
            faultyAt(TWO + ";ten ", name, 3);
            faultyAt(TWO + ";man ", name, 3);
        }
        edges.sentence(Edges.TERMS, "a second MAN that is the first, or (of friends) his friend already; at it;");
        faultyAt(TWO + ";friend b ", "b", 3);
        faultyAt(TWO + ";gone 1;among b ", "b", 3);
        faultyAt(TWO + ";friend a b;friend b ", "a", 3);
        sound(TWO + ";friend a b;gone 1;among a b 1;among a b 1", 2);
        edges.sentence(Edges.TERMS, "a MAN who drew already; at it;");
        faultyAt(HELMET + ";drew a white;drew ", "a", 3);
        faultyAt(HELMET + ";drew a white;drew b white;drew ", "a white", 3);
        edges.sentence(Edges.TERMS, "a second legion, helmet, gone: at that WORD.");
        faultyAt(HEAD + ";", "legion", 3);
        faultyAt(TWO + ";", HEAD, 3);
        faultyAt(HELMET + ";", "helmet", 3);
        faultyAt(TWO + ";gone 0;", "gone", 3);
        edges.sentence(Edges.TERMS, "4 a WHOLE out of bounds; at it.");
        faultyAt("legion holds    ", "009", 4);
        faultyAt(TWO + ";helmet beans 12 black 12 shaken  ", "999", 4);
        edges.sentence(Edges.TERMS, "5 MANY: a LINE more of its sort than there is room for, at its first WORD.");
        faultyAt(TEN + ";ten u;ten v; ", "ten", 5);
        faultyAt(EIGHT + ";  ", "man", 5);
        edges.sentence(Edges.TERMS, "6 LACKS: any LINE ahead of the legion; at its WORD;");
        for (String word : KEPT_WORDS) {
            if (!word.equals("legion")) {
                faultyAt("  ", word, 6);
            }
        }
        edges.sentence(Edges.TERMS, "one that drew ahead of the helmet, among ahead of the gone; at that WORD;");
        faultyAt(TWO + ";gone 1;", "drew", 6);
        faultyAt(HELMET + ";", "among", 6);
        edges.sentence(Edges.TERMS, "at the end: no ten.");
        faulty(HEAD, 6, HEAD.length());
        faulty(HEAD + "   ", 6, HEAD.length() + 3);
        faulty(HEAD + ";gone 0", 6, HEAD.length() + 7);
        edges.sentence(Edges.TERMS, "7 BEANS: black, or white, of which none is left; at it.");
        faultyAt(TWO + ";helmet beans 2 black 2 shaken 0 for a;drew a  ", "white", 7);
        faultyAt(TWO + ";helmet beans 2 black 1 shaken 0 for a;drew a black;drew b  ", "black", 7);
    }

    // ---- promises 1 to 5

    private void newObject() {
        edges.sentence(1, "No LEGION.");
        TenthBean x = new TenthBean();
        check.due("trouble", x.trouble(), 0);
        check.refused("there", x, x.there(), -1, 1);
        check.due("tens", x.size(4), 0);
        check.due("THE TAPE", x.size(12), 0);
        TenthBean other = Check.legion(TWO);
        check.due("not that of another object", new TenthBean().there(), -1);
        check.due("which has its own", other.there(), 3);
    }

    private void feed() {
        edges.sentence(2, "Twenty bytes come behind THE TAPE, of each number the highest first: how many it has;");
        for (int at = 0; at < 20; at++) {
            int[] five = {0x20202020, 0x20202020, 0x20202020, 0x20202020, 0x20202020};
            int shift = 24 - 8 * (at % 4);
            five[at / 4] = five[at / 4] & ~(255 << shift) | 0xE9 << shift;
            TenthBean x = new TenthBean();
            feedBlanks(x);
            check.due("behind it", x.feed(five[0], five[1], five[2], five[3], five[4]), 40);
            x.legion(40);
            check.due("byte " + at, x.where(), 20 + at);
        }
        edges.sentence(2, "NONE, and none comes, if there would be more than 1,000.");
        TenthBean x = new TenthBean();
        for (int i = 1; i <= 50; i++) {
            feedBlanks(x);
        }
        check.due("full", x.size(12), 1000);
        int bad = 0x3F3F3F3F;
        for (int i = 0; i < 3; i++) {
            check.due("no more", x.feed(bad, bad, bad, bad, bad), -1);
            check.due("none came", x.size(12), 1000);
        }
        x.legion(1000);
        check.due("all blanks yet", x.where(), 1000);
        check.due("empty, it takes more", x.feed(bad, bad, bad, bad, bad), 20);
        x.legion(20);
        check.due("from its first byte", x.where(), 0);
    }

    private void legion() {
        edges.sentence(3, "The first n bytes of THE TAPE (it is empty then) are the LEGION from now on"
                + " (all are there, none braced, no LOT, no ANGER, SEED 0; nothing to undo, no IMAGES): how many men.");
        TenthBean x = Edges.used();
        String fearing = TWO.replace("fear 0", "fear 2");
        Check.feed(x, fearing + ";friend a b");
        check.told("legion", x, x.legion(fearing.length()), 2);
        check.due("it is empty", x.size(12), 0);
        check.due("the first n alone", x.size(6), 0);
        check.due("all are there", x.there(), 3);
        check.due("none braced", x.man(0, 7) + x.man(1, 7), 0);
        check.due("no LOT", x.ten(0, 2), 0);
        check.due("nor FEAR", x.man(0, 3) + x.man(1, 3), 0);
        check.due("no ANGER", x.anger() + x.man(0, 5) + x.man(1, 5), 0);
        check.due("SEED", x.size(9), 0);
        check.due("ACTS", x.size(10), 0);
        check.refused("undo", x, x.undo(), 6);
        check.due("IMAGES", x.size(11), 0);
        check.refused("back", x, x.back(0), 1);
        nothingOfEarlier(x);
        check.told("the third", x, Check.tell(x, TWO), 2);
        nothingOfEarlier(x);
        check.told("no men", x, Check.tell(x, TEN), 0);
        check.due("nobody is there", x.there(), 0);
        check.told("eight men", x, Check.tell(x, EIGHT), 8);
        check.due("eight are there", x.there(), 255);
        edges.sentence(3, "NONE: 2 (THE TAPE stays);");
        TenthBean y = new TenthBean();
        Check.feed(y, TWO);
        int fed = y.size(12);
        for (int n : Edges.outside(fed)) {
            check.refused("legion(" + n + ")", y, y.legion(n), -1, 2);
            check.due("stays", y.size(12), fed);
        }
        check.told("all that was fed", y, y.legion(fed), 2);
        check.refused("no more", y, y.legion(1), -1, 2);
        check.due("the LEGION stays too", y.there(), 3);
        edges.sentence(3, "4 (the LEGION stays).");
        TenthBean z = Edges.used();
        int[] ahead = Edges.state(z);
        check.refused("faulty", z, Check.tell(z, Edges.head(5, 5, 3, 9) + ";ten u;ten v;ten w;man b coward in w nerve 6;gone 1;ten ten"), -1, 4);
        int[] behind = Edges.state(z);
        for (int i = 0; i < ahead.length; i++) {
            check.due("stays " + i, behind[i], ahead[i]);
        }
        check.due("THE TAPE is empty", z.size(12), 0);
        check.refused("no bytes at all", z, z.legion(0), -1, 4);
        check.refused("a FAULT behind all sorts of LINES", z, Check.tell(z, Check.FULL + ";"), -1, 4);
        check.told("none of it is told then", z, Check.tell(z, TWO), 2);
        nothingOfEarlier(z);
    }

    /** Two men of one ten, and nothing else that a text told ahead of theirs. */
    private void nothingOfEarlier(TenthBean x) {
        int[] sizes = {1, 2, 0, 0, 0};
        for (int i = 0; i < sizes.length; i++) {
            check.due("size(" + (4 + i) + ")", x.size(4 + i), sizes[i]);
        }
        check.due("friends of a", x.man(0, 4), 0);
        check.due("friends of b", x.man(1, 4), 0);
        check.refused("no helmet", x, x.doubt(true), -1, 6);
        check.refused("no gone", x, x.gone(), -1, 6);
    }

    private void fault() {
        edges.sentence(4, "The FAULT of the latest legion() not refused by 2;");
        TenthBean x = new TenthBean();
        String[] texts = {"", "legion holds 1 lots 2 fear 0 mutiny 1;man a plain in t", TEN + ";ten t", "legion holds 9", TEN + ";ten u;ten v;ten w", "ten t",
            TWO + ";helmet beans 1 black 1 shaken 0 for a;drew a white"};
        for (int i = 0; i < texts.length; i++) {
            Check.tell(x, texts[i]);
            check.due("FAULT " + (i + 1), x.fault(), i + 1);
            x.legion(1);
            x.legion(-1);
            check.due("FAULT " + (i + 1) + " stays by 2", x.fault(), i + 1);
        }
        x.there();
        x.undo();
        check.due("behind other calls", x.fault(), 7);
        edges.sentence(4, "0 without one.");
        check.due("of a new object", new TenthBean().fault(), 0);
        TenthBean y = new TenthBean();
        y.legion(5);
        check.due("refused by 2 alone", y.fault(), 0);
        Check.tell(x, TEN);
        check.due("behind one without", x.fault(), 0);
        x.legion(5);
        check.due("and then by 2", x.fault(), 0);
    }

    private void where() {
        edges.sentence(5, "Its place, if the latest call that may be refused was by 4;");
        TenthBean x = new TenthBean();
        Check.tell(x, TEN + " ?");
        int place = TEN.length() + 1;
        check.due("place", x.where(), place);
        check.due("again", x.where(), place);
        feedBlanks(x);
        x.fault();
        x.size(0);
        x.trouble();
        Check.led(x, 0);
        check.due("behind calls that can't be refused", x.where(), place);
        edges.sentence(5, "NONE else.");
        check.due("of a new object", new TenthBean().where(), -1);
        x.legion(-1);
        check.due("by 2", x.where(), -1);
        x.legion(20);
        Check.tell(x, "?");
        check.due("place 0", x.where(), 0);
        x.undo();
        check.due("by 6", x.where(), -1);
        Check.tell(x, "?");
        Check.tell(x, TEN);
        check.due("a sound one", x.where(), -1);
        Check.tell(x, "?");
        x.there();
        check.due("a call that wasn't refused", x.where(), -1);
    }
}
