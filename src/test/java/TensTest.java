/** Promises 26 to 28: friends, newTen, friendsNow. */
public final class TensTest {
    private static final Check CHECK = new Check();
    private static final String THREE = "legion holds 0 lots 2 fear 0 mutiny 30;ten x;ten y;man a plain in x nerve 0;"
            + "man b plain in x nerve 0;man c plain in x nerve 0;friend a b;friend b c;friend c a";

    public static void main(String[] args) {
        TenthBean none = new TenthBean();
        CHECK.refused("friends", none, none.friends(), -1, 1);
        CHECK.refused("newTen", none, none.newTen(0), -1, 1);
        CHECK.refused("friendsNow", none, none.friendsNow(), -1, 1);
        three();
        full();
        apart();
        CHECK.end();
    }

    private static void tens(String name, TenthBean x, int... want) {
        for (int m = 0; m < want.length; m++) {
            CHECK.told(name + ": newTen(" + m + ")", x, x.newTen(m), want[m]);
        }
    }

    private static void three() {
        TenthBean x = Check.legion(THREE);
        CHECK.told("friendsNow", x, x.friendsNow(), 3);
        CHECK.told("two in one ten", x, x.friends(), 1);
        tens("of like ones the first", x, 0, 0, 1);
        CHECK.refused("newTen(3)", x, x.newTen(3), -1, 1);
        CHECK.refused("newTen(-1)", x, x.newTen(-1), -1, 1);
        x.lot(0);
        CHECK.told("c went: friendsNow", x, x.friendsNow(), 1);
        CHECK.told("c went", x, x.friends(), 0);
        tens("c went", x, 0, 1);
        CHECK.refused("newTen of who isn't there", x, x.newTen(2), -1, 1);
        x.move(0, 1);
        CHECK.told("moved: friendsNow", x, x.friendsNow(), 0);
        TenthBean one = Check.legion(THREE.replace(";ten y", ""));
        CHECK.told("one ten", one, one.friends(), 3);
        TenthBean more = Check.legion(THREE.replace(";ten y", ";ten y;ten z"));
        CHECK.told("three tens", more, more.friends(), 0);
        tens("three tens, one in each", more, 0, 1, 2);
    }

    private static void full() {
        TenthBean x = Check.legion(Check.FULL);
        CHECK.told("full", x, x.friends(), 0);
        tens("full", x, 0, 1, 0, 1, 1, 0);
        CHECK.told("full now", x, x.friendsNow(), 1);
        TenthBean empty = Check.legion("legion holds 0 lots 2 fear 0 mutiny 1;ten t");
        CHECK.told("nobody", empty, empty.friends(), 0);
        CHECK.told("nobody now", empty, empty.friendsNow(), 0);
    }

    /** Four to three tens: two at most in one, and a third ten may be left empty. */
    private static void apart() {
        TenthBean x = Check.legion("legion holds 0 lots 2 fear 0 mutiny 30;ten x;ten y;ten z;man a plain in x nerve 0;"
                + "man b plain in x nerve 0;man c plain in x nerve 0;man d plain in x nerve 0;friend a d;friend b d");
        CHECK.told("no friends", x, x.friends(), 0);
        tens("two at most", x, 0, 0, 1, 1);
    }
}
