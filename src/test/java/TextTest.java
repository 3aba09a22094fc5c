/** Promises 1 to 5: a new object, feed, legion, fault, where. */
public final class TextTest {
    private static final Check CHECK = new Check();
    private static final String HEAD = "legion holds 1 lots 2 fear 0 mutiny 1";
    private static final String TWO = HEAD + ";ten t;man a plain in t nerve 0;man b coward in t nerve 0";
    private static final String HELMET = TWO + ";man c plain in t nerve 1;helmet beans 3 black 1 shaken 100 for a";

    public static void main(String[] args) {
        newObject();
        tape();
        numbers();
        soundTexts();
        form();
        names();
        again();
        bounds();
        many();
        lacks();
        beans();
        places();
        CHECK.end();
    }

    private static void newObject() {
        TenthBean x = new TenthBean();
        for (int what = 0; what <= 12; what++) {
            CHECK.due("size of new", x.size(what), 0);
        }
        CHECK.due("trouble of new", x.trouble(), 0);
        CHECK.due("fault of new", x.fault(), 0);
        CHECK.due("where of new", x.where(), TenthBean.NONE);
        CHECK.refused("there of new", x, x.there(), -1, 1);
    }

    private static void tape() {
        TenthBean x = new TenthBean();
        for (int i = 1; i <= 50; i++) {
            CHECK.due("feed", x.feed(0x20202020, 0x20202020, 0x20202020, 0x20202020, 0x20202020), i * 20);
        }
        x.there();
        CHECK.due("feed beyond 1,000", x.feed(0, 0, 0, 0, 0), -1);
        CHECK.due("a feed leaves TROUBLE as it was", x.trouble(), 1);
        CHECK.due("none comes", x.size(12), 1000);
        CHECK.refused("all blanks", x, x.legion(1000), -1, 4);
        CHECK.due("all blanks: fault", x.fault(), 1);
        CHECK.due("all blanks: where", x.where(), 1000);
        CHECK.due("empty then", x.size(12), 0);
        // a b c d | high bytes begin no token
        x.feed(0x61626364, 0x80000000, 0, 0, 0);
        x.legion(20);
        CHECK.due("word that begins no LINE", x.where(), 0);
    }

    private static void numbers() {
        TenthBean x = new TenthBean();
        CHECK.refused("legion(1) of nothing", x, x.legion(1), -1, 2);
        CHECK.refused("legion(-1)", x, x.legion(-1), -1, 2);
        Check.feed(x, "x");
        CHECK.refused("legion(21)", x, x.legion(21), -1, 2);
        CHECK.due("THE TAPE stays", x.size(12), 20);
        CHECK.due("no place", x.where(), -1);
        CHECK.refused("legion(0)", x, x.legion(0), -1, 4);
        CHECK.due("nothing is no LEGION", x.fault(), 1);
        CHECK.due("nothing's end", x.where(), 0);
        CHECK.due("THE TAPE is empty", x.size(12), 0);
        CHECK.refused("legion(1) again", x, x.legion(1), -1, 2);
        CHECK.due("fault stays by 2", x.fault(), 1);
        CHECK.due("where is gone by 2", x.where(), -1);
    }

    private static void soundTexts() {
        TenthBean x = new TenthBean();
        CHECK.told("full", x, Check.tell(x, Check.FULL), 6);
        CHECK.due("no fault", x.fault(), 0);
        CHECK.due("seed", x.seed(77), true);
        CHECK.due("lot", x.lot(0) > 0, true);
        CHECK.due("image", x.image(), 0);
        CHECK.refused("faulty", x, Check.tell(x, "ten"), -1, 4);
        CHECK.due("the LEGION stays", x.size(5), 6);
        CHECK.due("its acts stay", x.size(10), 1);
        CHECK.due("its images stay", x.size(11), 1);
        CHECK.due("its gone stay", Integer.bitCount(x.there()), 5);
        CHECK.told("another", x, Check.tell(x, "  " + HEAD + " ; ten x ; ten y   ;man in veteran in y nerve 007 "), 1);
        CHECK.due("all are there", x.there(), 1);
        CHECK.due("his ten", x.man(0, 1), 1);
        CHECK.due("007", x.man(0, 2), 7);
        CHECK.due("SEED 0", x.size(9), 0);
        CHECK.due("nothing to undo", x.size(10), 0);
        CHECK.due("no IMAGES", x.size(11), 0);
        CHECK.due("no LOT", x.ten(0, 2), 0);
        CHECK.due("no helmet", x.size(7), 0);
        CHECK.due("no among", x.size(8), 0);
        CHECK.told("tokens need no blanks", x,
                Check.tell(x, "legion holds8lots6fear4mutiny30;ten abcdefgh;man plain plain in abcdefgh nerve7"), 1);
        CHECK.due("holds", x.size(0), 8);
        CHECK.due("lots", x.size(1), 6);
        CHECK.due("fear", x.size(2), 4);
        CHECK.due("mutiny", x.size(3), 30);
        Check.feed(x, HEAD + ";ten t;rubbish !!");
        CHECK.told("the first n bytes alone", x, x.legion((HEAD + ";ten t").length()), 0);
        CHECK.due("THE TAPE is empty then", x.size(12), 0);
    }

    private static void fault(String text, int number, int place) {
        TenthBean x = new TenthBean();
        CHECK.refused("[" + text + "]", x, Check.tell(x, text), -1, 4);
        CHECK.due("[" + text + "] fault", x.fault(), number);
        CHECK.due("[" + text + "] where", x.where(), place);
    }

    /** A FAULT at the last token. */
    private static void last(String ahead, String token, int number) {
        fault(ahead + token, number, ahead.length());
        fault(ahead + token + " !", number, ahead.length());
    }

    private static void form() {
        fault("", 1, 0);
        last("", "hello", 1);
        last("", "7", 1);
        last("", ";", 1);
        last("", "Legion", 1);
        last("", "legions", 1);
        last("legion ", "hold", 1);
        last("legion holds ", "x", 1);
        last("legion holds ", "0001", 1);
        last("legion holds 1 ", "fear", 1);
        last("legion holds 1 lots 2 ", "mutiny", 1);
        last("legion holds 1 lots 2 fear 0 ", "7", 1);
        last(HEAD + " ", "ten", 1);
        last(HEAD + ";", ";", 1);
        last(HEAD + ";ten ", "among", 1);
        last(HEAD + ";ten ", "abcdefghi", 1);
        last(HEAD + ";ten t", "1", 1);
        last(HEAD + ";ten t", "\t", 1);
        fault(HEAD + ";ten t" + (char) 200, 1, 43);
        fault(HEAD + ";ten t" + (char) 10, 1, 43);
        last(TWO + ";man c ", "bold", 1);
        last(TWO + ";man c plain ", "on", 1);
        last(TWO + ";man c plain in ", "ten", 1);
        last(TWO + ";man c plain in ", "3", 1);
        last(TWO + ";man c plain in t ", "fear", 1);
        last(TWO + ";friend ", "man", 1);
        last(TWO + ";friend a ", ";", 1);
        last(TWO + ";friend a b ", "a", 1);
        last(TWO + ";helmet ", "black", 1);
        last(TWO + ";helmet beans 2 black 1 shaken 1 ", "of", 1);
        last(HELMET + ";drew a ", "red", 1);
        last(TWO + ";gone ", "a", 1);
        last(TWO + ";gone 1;among a b ", "a", 1);
        fault("legion", 1, 6);
        fault("legion  ", 1, 8);
        fault(HEAD + ";", 1, 38);
        fault(TWO + ";friend a", 1, TWO.length() + 9);
        fault(TWO + ";helmet beans 1 black 1 shaken 0 for", 1, TWO.length() + 36);
    }

    private static void names() {
        last(HEAD + ";man a plain in ", "t", 2);
        last(TWO + ";man c plain in ", "b", 2);
        last(TWO + ";man c plain in ", "c", 2);
        last(TWO + ";friend ", "c", 2);
        last(TWO + ";friend a ", "t", 2);
        last(TWO + ";helmet beans 1 black 1 shaken 0 for ", "t", 2);
        last(HELMET + ";drew ", "x", 2);
        last(TWO + ";gone 0;among ", "t", 2);
        last(TWO + ";gone 0;among a ", "x", 2);
    }

    private static void again() {
        last(TWO + ";ten ", "t", 3);
        last(TWO + ";ten ", "a", 3);
        last(TWO + ";man ", "t", 3);
        last(TWO + ";man ", "b", 3);
        last(TWO + ";friend b ", "b", 3);
        last(TWO + ";friend a b;friend a ", "b", 3);
        last(TWO + ";friend a b;friend b ", "a", 3);
        last(HELMET + ";drew a black;drew ", "a", 3);
        last(TWO + ";gone 1;among a ", "a", 3);
        last(TWO + ";", "legion", 3);
        last(HELMET + ";", "helmet", 3);
        last(TWO + ";gone 0;", "gone", 3);
    }

    private static void bounds() {
        last("legion holds ", "9", 4);
        last("legion holds 8 lots ", "1", 4);
        last("legion holds 8 lots ", "7", 4);
        last("legion holds 8 lots 6 fear ", "5", 4);
        last("legion holds 8 lots 6 fear 4 mutiny ", "0", 4);
        last("legion holds 8 lots 6 fear 4 mutiny ", "31", 4);
        last(TWO + ";man c plain in t nerve ", "8", 4);
        last(TWO + ";helmet beans ", "0", 4);
        last(TWO + ";helmet beans ", "13", 4);
        last(TWO + ";helmet beans 3 black ", "0", 4);
        last(TWO + ";helmet beans 3 black ", "4", 4);
        last(TWO + ";helmet beans 3 black 3 shaken ", "101", 4);
        last(TWO + ";gone ", "3", 4);
        last(TWO + ";gone 2;among a b ", "3", 4);
        last(HEAD + ";ten t;gone ", "1", 4);
    }

    private static void many() {
        last(HEAD + ";ten a;ten b;ten c;", "ten", 5);
        StringBuilder men = new StringBuilder(HEAD + ";ten t");
        for (char c = 'a'; c < 'i'; c++) {
            men.append(";man ").append(c).append(" plain in t nerve 0");
        }
        last(men + ";", "man", 5);
        StringBuilder pairs = new StringBuilder(men);
        for (char c = 'b'; c < 'i'; c++) {
            pairs.append(";friend a ").append(c);
        }
        last(pairs + ";friend b c;", "friend", 5);
        StringBuilder draws = new StringBuilder(men + ";helmet beans 12 black 12 shaken 0 for a");
        for (char c = 'a'; c < 'g'; c++) {
            draws.append(";drew ").append(c).append(" black");
        }
        last(draws + ";", "drew", 5);
        StringBuilder amongs = new StringBuilder(men + ";gone 8");
        for (int i = 0; i < 5; i++) {
            amongs.append(";among a b 2");
        }
        last(amongs + ";", "among", 5);
        TenthBean x = new TenthBean();
        CHECK.told("as many as there is room for", x, Check.tell(x, pairs + ";friend b c" + amongs.substring(men.length())), 8);
    }

    private static void lacks() {
        last("", "ten", 6);
        last("", "man", 6);
        last("", "friend", 6);
        last("", "helmet", 6);
        last("", "drew", 6);
        last("", "gone", 6);
        last(" ", "among", 6);
        last(TWO + ";", "drew", 6);
        last(TWO + ";", "among", 6);
        fault(HEAD, 6, HEAD.length());
        fault(HEAD + "  ", 6, HEAD.length() + 2);
        fault(HEAD + ";gone 0", 6, HEAD.length() + 7);
    }

    private static void beans() {
        last(HELMET + ";drew a black;drew b ", "black", 7);
        last(HELMET + ";drew a white;drew b white;drew c ", "white", 7);
        TenthBean x = new TenthBean();
        CHECK.told("as many as there are", x, Check.tell(x, HELMET + ";drew a white;drew b white;drew c black"), 3);
    }

    private static void places() {
        TenthBean x = new TenthBean();
        Check.tell(x, "ten");
        CHECK.due("where", x.where(), 0);
        Check.feed(x, "nothing");
        x.size(99);
        x.trouble();
        x.fault();
        Check.led(x, 0);
        CHECK.due("where behind calls that can't be refused", x.where(), 0);
        x.there();
        CHECK.due("where behind another that was", x.where(), -1);
        CHECK.due("fault stays", x.fault(), 6);
        x.legion(20);
        CHECK.due("the next fault", x.fault(), 1);
        Check.tell(x, TWO);
        CHECK.due("fault is gone", x.fault(), 0);
        CHECK.due("where is gone", x.where(), -1);
    }
}
