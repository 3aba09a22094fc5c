/** Promises 52 to 54: led, size, trouble. */
public final class ToldTest {
    private static final Check CHECK = new Check();

    public static void main(String[] args) {
        led();
        sizes();
        troubles();
        CHECK.due("NONE", TenthBean.NONE, -1);
        CHECK.end();
    }

    private static void led() {
        TenthBean none = new TenthBean();
        CHECK.due("led(0), no LEGION", Check.led(none, 0), Check.THROWN);
        TenthBean x = Check.legion(Check.FULL);
        CHECK.due("led(0), none gone", Check.led(x, 0), Check.THROWN);
        x.lot(1);
        x.lot(0);
        x.lot(0);
        // 74 mod 2: dan; 5624 mod 4: abe; 28652 mod 3 of ben cal fay: fay
        CHECK.due("by numbers", Check.led(x, 0), 0);
        CHECK.due("by numbers", Check.led(x, 1), 3);
        CHECK.due("by numbers", Check.led(x, 2), 5);
        CHECK.due("no fourth", Check.led(x, 3), Check.THROWN);
        CHECK.due("led(-1)", Check.led(x, -1), Check.THROWN);
        CHECK.due("led(min)", Check.led(x, Integer.MIN_VALUE), Check.THROWN);
        CHECK.due("led(max)", Check.led(x, Integer.MAX_VALUE), Check.THROWN);
        x.undo();
        CHECK.due("undone", Check.led(x, 2), Check.THROWN);
    }

    private static void sizes() {
        TenthBean x = Check.legion(Check.FULL);
        x.seed(12);
        x.braces(0, true);
        x.image();
        Check.feed(x, "x");
        int[] want = {3, 3, 1, 3, 2, 6, 3, 2, 2, 12, 1, 1, 20};
        for (int what = 0; what < want.length; what++) {
            CHECK.due("size(" + what + ")", x.size(what), want[what]);
        }
        CHECK.due("size(13)", x.size(13), -1);
        CHECK.due("size(-1)", x.size(-1), -1);
        CHECK.due("size(max)", x.size(Integer.MAX_VALUE), -1);
    }

    private static void troubles() {
        TenthBean x = Check.legion(Check.FULL);
        x.runs(-1);
        CHECK.due("2", x.trouble(), 2);
        x.size(99);
        Check.led(x, 9);
        x.fault();
        x.where();
        Check.feed(x, "x");
        CHECK.due("calls without a number leave it", x.trouble(), 2);
        x.holds(0);
        CHECK.due("0 it wasn't", x.trouble(), 0);
        x.man(9, 9);
        CHECK.due("1", x.trouble(), 1);
        x.rest(99);
        CHECK.due("2 likewise", x.trouble(), 2);
        x.image();
        x.image();
        x.image();
        CHECK.due("0", x.trouble(), 0);
        x.image();
        CHECK.due("3", x.trouble(), 3);
        x.legion(3);
        CHECK.due("4", x.trouble(), 4);
        x.braces(0, false);
        CHECK.due("5", x.trouble(), 5);
        x.undo();
        CHECK.due("6", x.trouble(), 6);
        x.ask();
        CHECK.due("0 again", x.trouble(), 0);
    }
}
