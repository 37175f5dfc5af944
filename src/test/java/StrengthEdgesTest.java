/** The edges that the document names of what is asked by strength, a test for each sentence (promises 15 to 19). */
public final class StrengthEdgesTest {
    private static final Check check = new Check();

    public static void main(String[] args) {
        nobody();
        oneAlone();
        fairOfSeveralTheLeast();
        fairOfTheStrongest();
        halfDoesNotOutweigh();
        swingsOfSetsOfOthers();
        sharesOfAllRows();
        fewestOfSeveralTheLeast();
        neededAtTheEdge();
        whoeverIsThereCounts();
        whoIsNot();
        check.close("StrengthEdgesTest");
    }

    private static TugRope of(int... strong) {
        StringBuilder text = new StringBuilder("rope 9 0");
        for (int one : strong) {
            text.append(";puller 1 ").append(one).append(" 9 0");
        }
        return Check.made(text.toString());
    }

    private static void fair(int much, int set, int... strong) {
        check.is("fair, how much", of(strong).fair(0), much);
        check.is("fair, the set", of(strong).fair(1), set);
    }

    private static void fewest(int many, int set, int... strong) {
        check.is("fewest, how many", of(strong).fewest(0), many);
        check.is("fewest, the set", of(strong).fewest(1), set);
    }

    private static void needed(int set, int... strong) {
        check.is("needed", of(strong).needed(), set);
    }

    private static void swings(int[] due, int... strong) {
        for (int who = 0; who < due.length; who++) {
            check.is("swings of " + who, of(strong).swings(who), due[who]);
        }
    }

    private static void shares(int[] due, int... strong) {
        for (int who = 0; who < due.length; who++) {
            check.is("shares of " + who, of(strong).shares(who), due[who]);
        }
    }

    private static void nobody() {
        fair(0, 0);
        fewest(-2, -2);
        needed(0);
        check.is("swings", of().swings(0), -1);
        check.is("shares", of().shares(0), -1);
        check.is("fewest of others is NONE there, too", of().fewest(2), -1);
        check.is("fewest of others is NONE there, too", of().fewest(-1), -1);
    }

    private static void oneAlone() {
        for (int strong : new int[] {1, 40}) {
            fair(strong, 0, strong);
            fewest(1, 1, strong);
            needed(1, strong);
            swings(new int[] {1}, strong);
            shares(new int[] {1}, strong);
        }
    }

    private static void fairOfSeveralTheLeast() {
        // the same two sets the other way round are alike: SIDE 0 has the lesser one
        fair(0, 0b01, 5, 5);
        fair(1, 0b01, 5, 4);
        fair(1, 0b01, 4, 5);
        fair(3, 0b011, 1, 2, 6);
        fair(3, 0b001, 6, 2, 1);
        fair(0, 0b0011, 3, 3, 3, 3);
        fair(0, 0b0110, 4, 3, 2, 1);
        fair(0, 0b0111, 1, 1, 1, 3);
        fair(33, 0b00000001, 40, 1, 1, 1, 1, 1, 1, 1);
        fair(33, 0b01111111, 1, 1, 1, 1, 1, 1, 1, 40);
    }

    private static void fairOfTheStrongest() {
        fair(0, 0b00001111, 40, 40, 40, 40, 40, 40, 40, 40);
        fair(40, 0b0000111, 40, 40, 40, 40, 40, 40, 40);
        fair(1, 0b00001111, 40, 40, 40, 40, 40, 40, 40, 39);
        fair(0, 0b00001111, 1, 1, 1, 1, 1, 1, 1, 1);
    }

    private static void halfDoesNotOutweigh() {
        fewest(2, 0b11, 5, 5);
        fewest(1, 0b01, 6, 5);
        fewest(1, 0b10, 5, 6);
        fewest(2, 0b011, 5, 3, 2);
        fewest(1, 0b001, 6, 3, 2);
        swings(new int[] {1, 1}, 5, 5);
        swings(new int[] {2, 0}, 6, 5);
        shares(new int[] {1, 1}, 5, 5);
        shares(new int[] {2, 0}, 6, 5);
    }

    private static void swingsOfSetsOfOthers() {
        swings(new int[] {2, 2, 2}, 1, 1, 1);
        swings(new int[] {3, 1, 1}, 2, 1, 1);
        swings(new int[] {4, 0, 0}, 3, 1, 1);
        swings(new int[] {35, 35, 35, 35, 35, 35, 35, 35}, 40, 40, 40, 40, 40, 40, 40, 40);
        swings(new int[] {128, 0, 0, 0, 0, 0, 0, 0}, 40, 1, 1, 1, 1, 1, 1, 1);
        swings(new int[] {0, 0, 0, 0, 0, 0, 0, 128}, 1, 1, 1, 1, 1, 1, 1, 40);
        // 7 against all seven others: half, which is one set of these too few
        swings(new int[] {127, 1, 1, 1, 1, 1, 1, 1}, 7, 1, 1, 1, 1, 1, 1, 1);
    }

    private static void sharesOfAllRows() {
        shares(new int[] {2, 2, 2}, 1, 1, 1);
        shares(new int[] {4, 1, 1}, 2, 1, 1);
        shares(new int[] {6, 0, 0}, 3, 1, 1);
        shares(new int[] {5040, 5040, 5040, 5040, 5040, 5040, 5040, 5040}, 1, 1, 1, 1, 1, 1, 1, 1);
        shares(new int[] {40320, 0, 0, 0, 0, 0, 0, 0}, 40, 1, 1, 1, 1, 1, 1, 1);
        // in each row someone tips it, once
        int[][] ropes = {{7, 1, 1, 1, 1, 1, 1, 1}, {40, 39, 38, 37, 36, 35, 34, 33}, {1, 2, 4, 8, 16, 32, 40}, {9, 9, 9, 1},
            {2, 3, 5, 7, 11, 13}, {1, 1}, {40, 40, 40, 40, 40}};
        int[] rows = {1, 1, 2, 6, 24, 120, 720, 5040, 40320};
        for (int[] strong : ropes) {
            TugRope t = of(strong);
            int sum = 0;
            for (int who = 0; who < strong.length; who++) {
                sum += t.shares(who);
            }
            check.is("shares of all", sum, rows[strong.length]);
        }
        // the first of 7 tips it but when all others are ahead, the last then
        shares(new int[] {7 * 5040, 720, 720, 720, 720, 720, 720, 720}, 7, 1, 1, 1, 1, 1, 1, 1);
    }

    private static void fewestOfSeveralTheLeast() {
        fewest(2, 0b011, 3, 3, 3);
        fewest(3, 0b0111, 1, 1, 1, 1);
        fewest(2, 0b011, 1, 4, 4);
        fewest(2, 0b1100, 1, 1, 4, 4);
        fewest(1, 0b100, 1, 1, 5);
        fewest(5, 0b00011111, 40, 40, 40, 40, 40, 40, 40, 40);
        fewest(1, 0b10000000, 1, 1, 1, 1, 1, 1, 1, 40);
        // 7 and one more, of seven; the least of these
        fewest(2, 0b00000011, 7, 1, 1, 1, 1, 1, 1, 1);
        fewest(2, 0b10000001, 1, 1, 1, 1, 1, 1, 1, 7);
    }

    private static void neededAtTheEdge() {
        needed(0b11, 5, 5);
        needed(0b01, 6, 5);
        needed(0b10, 5, 6);
        needed(0b001, 5, 3, 2);
        needed(0b000, 4, 3, 2);
        needed(0b001, 6, 3, 2);
        needed(0, 1, 1, 1);
        needed(0b00000001, 7, 1, 1, 1, 1, 1, 1, 1);
        needed(0b00000000, 6, 1, 1, 1, 1, 1, 1, 1);
        needed(0b10000000, 1, 1, 1, 1, 1, 1, 1, 40);
    }

    /** On which SIDE they are, whether they STAND and what WIND they have does not count. */
    private static void whoeverIsThereCounts() {
        TugRope t = Check.made("rope 4 9;puller 1 16 60 0;puller 0 1 0 0;puller 0 1 0 0", "pull 2 if side = 1");
        t.heave();
        check.is("down", t.count(7), 0b101);
        t.send(2);
        check.is("fair", t.fair(0), 14);
        check.is("fair", t.fair(1), 0b001);
        check.is("swings", t.swings(0), 4);
        check.is("shares", t.shares(0), 6);
        check.is("swings of who is down", t.swings(1), 0);
        check.is("fewest", t.fewest(1), 1);
        check.is("needed", t.needed(), 1);
    }

    private static void whoIsNot() {
        TugRope t = of(4, 3, 2, 1);
        check.is("the last", t.swings(3), 1);
        check.is("behind the last", t.swings(4), -1);
        check.is("ahead of the first", t.swings(-1), -1);
        check.is("the last", t.shares(3), 2);
        check.is("behind the last", t.shares(4), -1);
        check.is("ahead of the first", t.shares(-1), -1);
        TugRope eight = of(1, 1, 1, 1, 1, 1, 1, 1);
        check.is("the eighth", eight.swings(7), 35);
        check.is("a ninth", eight.swings(8), -1);
        check.is("the eighth", eight.shares(7), 5040);
        check.is("a ninth", eight.shares(8), -1);
        for (int what : new int[] {-1, 2}) {
            check.is("fair of others", t.fair(what), -1);
            check.is("fewest of others", t.fewest(what), -1);
        }
        check.is("needed without a ROPE", new TugRope().needed(), -1);
        check.is("fair without a ROPE", new TugRope().fair(0), -1);
        check.is("fewest without a ROPE", new TugRope().fewest(0), -1);
    }
}
