/** Promises 1 to 3: a new object, feed, end. */
public final class TapeTest {
    private static final Check check = new Check();

    public static void main(String[] args) {
        newObject();
        feeding();
        ending();
        check.close("TapeTest");
    }

    private static void newObject() {
        TugRope t = new TugRope();
        check.is("NONE", TugRope.NONE, -1);
        int[] counts = {0, 0, 0, 0, -1, 0, 0, 0, 0, 0, 0, 0, 0, 0};
        for (int what = 0; what < counts.length; what++) {
            check.is("new count " + what, t.count(what), counts[what]);
        }
        check.is("new ribbon", t.ribbon(), -1);
        check.is("new heave", t.heave(), -1);
        check.is("new puller", t.puller(0, 0), -1);
        check.is("new force(0)", t.force(0), -2);
        check.is("new undo", t.undo(), -1);
    }

    private static void feeding() {
        TugRope t = new TugRope();
        for (int n = 1; n <= 20; n++) {
            check.is("feed " + n, t.feed(n, n, n, n, n), 20 * n);
        }
        check.is("feed when full", t.feed(0, 0, 0, 0, 0), -1);
        check.is("bytes when full", t.count(13), 400);
        check.is("end(381)", t.end(381), 381);
        check.is("feed without room", t.feed(0, 0, 0, 0, 0), -1);
        check.is("bytes then", t.count(13), 381);
        check.is("end(380)", t.end(380), 380);
        check.is("feed with just room", t.feed(0, 0, 0, 0, 0), 400);
        // the highest byte of each number is first: "rope 7 3;puller 1 40" then bytes above 127
        TugRope u = new TugRope();
        u.feed(0x726f7065, 0x20372033, 0x3b70756c, 0x6c657220, 0x31203430);
        u.feed(0x20362039, 0xFF000000, 0, 0, 0);
        u.end(24);
        check.is("rope of fed bytes", u.rope(), 1);
        check.is("line", u.count(0), 7);
        check.is("mud", u.count(1), 3);
        check.is("strong", u.puller(0, 1), 40);
        check.is("boots", u.puller(0, 3), 9);
        u.feed(0x726f7065, 0x20372033, 0xFF000000, 0, 0);
        check.is("byte 255", u.rope(), Check.fault(8, 0));
    }

    private static void ending() {
        TugRope t = new TugRope();
        check.is("end(0) of an empty tape", t.end(0), 0);
        check.is("end(1) of an empty tape", t.end(1), -1);
        t.feed(1, 2, 3, 4, 5);
        check.is("end(-1)", t.end(-1), -1);
        check.is("end(21)", t.end(21), -1);
        check.is("end(min)", t.end(Integer.MIN_VALUE), -1);
        check.is("end(max)", t.end(Integer.MAX_VALUE), -1);
        check.is("bytes", t.count(13), 20);
        check.is("end(20)", t.end(20), 20);
        check.is("end(7)", t.end(7), 7);
        check.is("end(8)", t.end(8), -1);
        check.is("bytes", t.count(13), 7);
        check.is("feed behind 7", t.feed(0, 0, 0, 0, 0), 27);
    }
}
