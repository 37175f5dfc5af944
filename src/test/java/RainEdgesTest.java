/** The edges that the document names of DRAWS, RAIN, counts and IMAGES, a test for each sentence (promises 33 to 37). */
public final class RainEdgesTest {
    private static final Check check = new Check();
    private static final int MAX = Integer.MAX_VALUE;
    private static final String ONE = "rope 60 0;puller 1 4 60 9";

    public static void main(String[] args) {
        seedOfNoneToTheMost();
        drawsGoRound();
        rainOfOneToTen();
        rainOfOneToSixty();
        rainBelowNoneToAHundred();
        rainOnNobody();
        rainWhoIsDownEither();
        rainSideOneAtTheEnd();
        rainOneTimeBehindTheOther();
        countsOfNothing();
        countsAtTheirMost();
        countsOfOthers();
        imagesNoughtToThree();
        imageNeverMade();
        imageOfNothing();
        imageOfAllButTapeAndRules();
        imageOfNotes();
        imageStaysAsItWas();
        nothingUndoneThen();
        check.close("RainEdgesTest");
    }

    private static void seedOfNoneToTheMost() {
        TugRope t = new TugRope();
        check.is("0 at first", t.count(12), 0);
        check.is("what it was", t.seed(MAX), 0);
        check.is("the most", t.count(12), MAX);
        check.is("below 0", t.seed(-1), -1);
        check.is("far below 0", t.seed(Integer.MIN_VALUE), -1);
        check.is("nothing happens", t.count(12), MAX);
        check.is("what it was", t.seed(0), MAX);
        check.is("none", t.seed(1), 0);
        check.is("one", t.seed(1), 1);
    }

    private static void rain(String when, TugRope t, int m, int n, int p, int over, int together) {
        check.is("rain, how many times, " + when, t.rain(m, n, p, 0), over);
        check.is("rain, all together, " + when, t.rain(m, n, p, 1), together);
    }

    private static void drawsGoRound() {
        // from the most: 15929, which is 29, then 4409
        TugRope t = Check.made("rope 60 0;puller 1 4 60 9;puller 1 8 60 9;puller 1 16 60 9", "pull 1");
        t.seed(MAX);
        rain("29 is not below 29", t, 1, 1, 29, 0, 207);
        rain("4409 mod 3 is 2", t, 1, 1, 30, 0, 203);
        check.is("x as it was", t.count(12), MAX);
        // from 0: 0, then 21468 mod 3 is 0
        t.seed(0);
        rain("0 is not below 0", t, 1, 1, 0, 0, 207);
        rain("0 is below 1", t, 1, 1, 1, 0, 206);
        check.is("x as it was", t.count(12), 0);
    }

    private static void rainOfOneToTen() {
        TugRope t = Check.made("rope 3 0;puller 1 4 60 9", "pull 3");
        for (int m = 1; m <= 10; m++) {
            rain(m + " times", t, m, 1, 0, m, 203 * m);
        }
        rain("none", t, 0, 1, 0, -1, -1);
        rain("11", t, 11, 1, 0, -1, -1);
        rain("-1", t, -1, 1, 0, -1, -1);
        check.is("others", t.rain(1, 1, 0, 2), -1);
        check.is("others", t.rain(1, 1, 0, -1), -1);
        rain("without a ROPE", new TugRope(), 1, 1, 0, -1, -1);
    }

    private static void rainOfOneToSixty() {
        TugRope t = Check.made(ONE, "pull 1 if heave = 0 or heave = 59 or heave = 60");
        rain("1", t, 1, 1, 0, 0, 201);
        rain("59", t, 1, 59, 0, 0, 201);
        rain("60", t, 1, 60, 0, 0, 202);
        rain("none", t, 1, 0, 0, -1, -1);
        rain("61", t, 1, 61, 0, -1, -1);
        rain("-1", t, 1, -1, 0, -1, -1);
        t.heave();
        rain("60 from now on", t, 1, 60, 0, 0, 203);
    }

    private static void rainBelowNoneToAHundred() {
        TugRope t = Check.made(ONE, "pull 1");
        rain("never", t, 10, 59, 0, 0, 2590);
        rain("always", t, 10, 60, 100, 0, 2000);
        rain("never, to the LINE", t, 10, 60, 0, 10, 2600);
        rain("below 0", t, 1, 1, -1, -1, -1);
        rain("above 100", t, 1, 1, 101, -1, -1);
        t.seed(seedOf(99));
        rain("99 is not below 99", t, 1, 1, 99, 0, 201);
        rain("99 is below 100", t, 1, 1, 100, 0, 200);
    }

    /** The least x by which the next DRAW mod 100 is as told. */
    private static int seedOf(int rest) {
        for (int x = 0;; x++) {
            long draw = (x * 1103515245L + 12345) % 2147483648L / 65536;
            if (draw % 100 == rest) {
                return x;
            }
        }
    }

    private static void rainOnNobody() {
        TugRope t = Check.made("rope 5 0;ribbon 8");
        rain("nobody there", t, 10, 60, 100, 0, 2040);
        rain("nobody there", t, 1, 1, 0, 0, 204);
        check.is("x as it was", t.count(12), 0);
    }

    private static void rainWhoIsDownEither() {
        TugRope t = Check.made("rope 60 9;puller 1 8 60 9;puller 0 4 60 0;puller 0 4 60 9", "pull 1 if side = 1 and heave = 0"
            + ";pull 3 if side = 0 and heave = 1");
        t.heave();
        check.is("1 is down, and 1 to the good", t.count(7), 0b101);
        check.is("ribbon", t.ribbon(), 102);
        rain("never: 2 pulls alone", t, 1, 1, 0, 0, 199);
        // the first DRAW of 0 is 0, the second 21468: mod 3 it is 0, who does not pull
        rain("another one is wet", t, 1, 1, 1, 0, 199);
        // from 7 on they are 19564 and 9806: mod 3 it is 2
        t.seed(7);
        rain("neither pulls", t, 1, 1, 65, 0, 202);
        check.is("who is down stays so", t.count(7), 0b101);
    }

    private static void rainSideOneAtTheEnd() {
        for (int line : new int[] {5, 6, 7}) {
            TugRope t = Check.made("rope " + line + " 0;puller 1 4 60 9");
            rain("LINE " + line + " and 6", t, 2, 3, 0, line <= 6 ? 2 : 0, 412);
            t.send(0);
            rain("LINE " + line + " and -6", t, 2, 3, 0, 0, 388);
        }
        rain("over already", States.over(), 10, 60, 50, 10, 2080);
        String eight = "rope 60 0" + ";puller 1 40 60 9".repeat(8) + ";ribbon 118";
        rain("as far as it goes", Check.made(eight, "pull 3"), 10, 1, 0, 10, 2990);
        rain("as far as it goes", Check.made(eight.replace("r 1", "r 0").replace("n 118", "n 0"), "pull 3"), 10, 1, 0, 0, 1010);
    }

    private static void rainOneTimeBehindTheOther() {
        // DRAWS from 0 on: 0, 21468, then 9988, which is 88, 22117, which is 17, and 3498
        TugRope t = Check.made("rope 60 0;puller 1 4 60 9;puller 1 8 60 9", "pull 1");
        rain("0 is below 18, 21468 mod 2 is 0", t, 1, 1, 18, 0, 202);
        rain("88 is not: the second time all pull", t, 2, 1, 18, 0, 405);
        rain("17 is, 3498 mod 2 is 0: the third as the first", t, 3, 1, 18, 0, 607);
        rain("17 is not below 17", t, 3, 1, 17, 0, 608);
        rain("as one time of three HEAVES", t, 1, 3, 18, 0, 207);
        rain("asked again it is the same", t, 3, 1, 18, 0, 607);
    }

    private static void countsOfNothing() {
        int[] due = {0, 0, 0, 0, -1, 0, 0, 0, 0, 0, 0, 0, 0, 0};
        for (int what = 0; what < due.length; what++) {
            check.is("count " + what + " of nothing", new TugRope().count(what), due[what]);
        }
        int[] bare = {1, 0, 0, 0, -1, 0, 0, 0, 0, 0, 0, 0, 0, 0};
        TugRope t = Check.made("rope 1 0");
        for (int what = 0; what < bare.length; what++) {
            check.is("count " + what + " of nobody", t.count(what), bare[what]);
        }
    }

    private static void countsAtTheirMost() {
        TugRope t = States.full();
        t.force(5);
        int[][] due = {{0, 60}, {1, 9}, {2, 8}, {3, 6}, {4, 5}, {10, 10}, {11, 20}, {12, MAX}, {13, 400}};
        for (int[] one : due) {
            check.is("count " + one[0], t.count(one[0]), one[1]);
        }
        TugRope eight = Check.made("rope 60 0" + ";puller 0 1 60 9".repeat(8), "pull 3");
        check.is("all on SIDE 0", eight.count(6), 255);
        check.is("all stand", eight.count(7), 255);
        eight.heave();
        check.is("all worked", eight.count(9), 24);
        check.is("HEAVE", eight.count(5), 1);
        check.is("over", States.over().count(8), 1);
        check.is("who is down", States.over().count(7), 0b101);
    }

    private static void countsOfOthers() {
        for (int what : new int[] {Integer.MIN_VALUE, -1, 14, MAX}) {
            check.is("count of others", States.full().count(what), -1);
            check.is("count of others", new TugRope().count(what), -1);
        }
    }

    private static void imagesNoughtToThree() {
        TugRope t = Check.made(ONE);
        for (int k = 0; k < 4; k++) {
            check.is("never made", t.back(k), -1);
            check.is("HEAVE", t.image(k), k);
            t.heave();
        }
        check.is("4", t.image(4), -1);
        check.is("-1", t.image(-1), -1);
        check.is("4", t.back(4), -1);
        check.is("-1", t.back(-1), -1);
        check.is("nothing happens", t.ribbon(), 108);
        for (int k = 3; k >= 0; k--) {
            check.is("HEAVE", t.back(k), k);
            check.is("ribbon", t.ribbon(), 100 + 2 * k);
        }
        for (int k = 0; k < 4; k++) {
            check.is("again", t.back(k), k);
            check.is("ribbon", t.ribbon(), 100 + 2 * k);
        }
    }

    private static void imageNeverMade() {
        TugRope t = Check.made(ONE);
        t.image(1);
        for (int k : new int[] {0, 2, 3}) {
            check.is("never made", t.back(k), -1);
        }
        for (int k : new int[] {0, 1, 2}) {
            Twins.leaves(check, "never made " + k, States::over, r -> r.back(k), -1);
        }
        t.heave();
        check.is("ACTS stay", t.count(11), 1);
        check.is("made", t.back(1), 0);
    }

    private static void imageOfNothing() {
        TugRope t = new TugRope();
        check.is("HEAVE", t.image(0), 0);
        Check.tellRope(t, States.FOUR);
        Check.tellRule(t, "pull 1");
        t.force(0);
        t.seed(9);
        t.heave();
        t.note(0, 100);
        check.is("gone back", t.back(0), 0);
        int[] due = {0, 0, 0, 1, -1, 0, 0, 0, 0, 0, 0, 0, 0, 0};
        for (int what = 0; what < due.length; what++) {
            check.is("count " + what, t.count(what), due[what]);
        }
        check.is("no ROPE", t.ribbon(), -1);
        check.is("no PULLERS", t.puller(0, 0), -1);
        check.is("no HEAVE", t.heave(), -1);
    }

    private static void imageOfAllButTapeAndRules() {
        TugRope t = States.busy();
        check.is("image", t.image(3), 2);
        int strengths = t.strengths(0, 0);
        t.force(-1);
        t.note(-1, 0);
        t.seed(5);
        Check.tellRule(t, "pull 3");
        Check.tellRope(t, "rope 60 0;puller 0 1 1 1");
        Check.tell(t, "rope 1");
        check.is("back", t.back(3), 2);
        int[] due = {9, 2, 4, 3, 1, 2, 0b0111, 15, 0, t.count(9), 2, 0, 99, 6};
        for (int what = 0; what < due.length; what++) {
            check.is("count " + what, t.count(what), due[what]);
        }
        check.is("ribbon", t.ribbon(), 104);
        check.is("NOTES not only by their number", t.strengths(0, 0), strengths);
        check.is("which some are not so by", strengths < 40 ? 1 : 0, 1);
        for (int who = 0; who < 4; who++) {
            for (int what = 0; what < 7; what++) {
                check.is("puller(" + who + ", " + what + ")", t.puller(who, what), States.busy().puller(who, what));
            }
        }
        check.is("the TAPE stays", t.rope(), Check.fault(6, 0));
        t.force(2);
        check.is("the RULE told since stays", t.count(4), 2);
    }

    private static void imageOfNotes() {
        TugRope t = Check.made(ONE, "pull 1", "pull 3");
        t.note(0, 101);
        t.image(0);
        check.is("0 is so", t.ruled(1), 0);
        t.note(-1, 0);
        t.note(0, 103);
        t.image(1);
        check.is("1 is so", t.ruled(1), 1);
        t.note(-1, 0);
        t.note(1, 101);
        check.is("none is so", t.ruled(1), -2);
        t.back(0);
        check.is("0 again", t.ruled(1), 0);
        t.note(1, 102);
        check.is("and two", t.count(10), 2);
        t.back(1);
        check.is("1 again", t.ruled(1), 1);
        check.is("one", t.count(10), 1);
        // behind which HEAVE, too
        t.note(-1, 0);
        t.note(2, 103);
        check.is("0 behind HEAVE 2", t.ruled(1), 0);
        t.back(1);
        check.is("1 behind HEAVE 0", t.ruled(1), 1);
    }

    private static void imageStaysAsItWas() {
        TugRope t = States.busy();
        t.image(3);
        t.back(3);
        t.heave();
        t.note(3, 3);
        t.seed(1);
        t.send(0);
        t.back(3);
        check.is("HEAVE", t.count(5), 2);
        check.is("NOTES", t.count(10), 2);
        check.is("x", t.count(12), 99);
        check.is("SIDE", t.puller(0, 0), 0);
        t.heave();
        check.is("made anew", t.image(3), 3);
        t.heave();
        check.is("as it was then", t.back(3), 3);
        check.is("another stays", t.back(0), 1);
        // a new ROPE leaves the IMAGES
        Check.tellRope(t, "rope 1 0");
        check.is("behind a new ROPE", t.back(3), 3);
        check.is("PULLERS", t.count(2), 4);
    }

    private static void nothingUndoneThen() {
        TugRope t = States.full();
        check.is("20 can be", t.count(11), 20);
        t.image(1);
        check.is("an IMAGE is no ACT, and undoes none", t.count(11), 20);
        t.back(1);
        check.is("none can be", t.count(11), 0);
        check.is("none can be", t.undo(), -1);
        check.is("nothing happens", t.count(5), t.image(2));
        for (int i = 0; i < 20; i++) {
            t.heave();
        }
        check.is("20 can be again", t.count(11), 20);
    }
}
