/** Promises 15 to 19: fair, swings, shares, fewest, needed. */
public final class StrengthTest {
    private static final Check check = new Check();

    public static void main(String[] args) {
        fourOfTen();
        ties();
        one();
        nobody();
        eight();
        withoutRope();
        strengthIsAsTold();
        check.close("StrengthTest");
    }

    private static TugRope of(int... strong) {
        StringBuilder text = new StringBuilder("rope 9 0");
        for (int i = 0; i < strong.length; i++) {
            text.append(";puller ").append(i % 2).append(' ').append(strong[i]).append(" 9 0");
        }
        return Check.made(text.toString());
    }

    private static void fourOfTen() {
        TugRope t = of(4, 3, 2, 1);
        check.is("fair 0", t.fair(0), 0);
        check.is("fair 1", t.fair(1), 0b0110);
        check.is("fair 2", t.fair(2), -1);
        check.is("fair -1", t.fair(-1), -1);
        int[] swings = {5, 3, 3, 1};
        int[] shares = {10, 6, 6, 2};
        for (int who = 0; who < 4; who++) {
            check.is("swings " + who, t.swings(who), swings[who]);
            check.is("shares " + who, t.shares(who), shares[who]);
        }
        check.is("swings 4", t.swings(4), -1);
        check.is("swings -1", t.swings(-1), -1);
        check.is("shares 4", t.shares(4), -1);
        check.is("shares -1", t.shares(-1), -1);
        check.is("fewest 0", t.fewest(0), 2);
        check.is("fewest 1", t.fewest(1), 0b0011);
        check.is("fewest 2", t.fewest(2), -1);
        check.is("fewest -1", t.fewest(-1), -1);
        check.is("needed", t.needed(), 0);
        check.is("acts", t.count(11), 0);
        check.is("sides stay", t.count(6), 0b0101);
    }

    private static void ties() {
        TugRope t = of(5, 3, 2);
        check.is("half is not more", t.needed(), 0b001);
        check.is("fewest", t.fewest(0), 2);
        check.is("the least set", t.fewest(1), 0b011);
        check.is("swings of half", t.swings(0), 3);
        check.is("swings of 1", t.swings(1), 1);
        check.is("swings of 2", t.swings(2), 1);
        check.is("fair: 5 and 5", t.fair(0), 0);
        check.is("fair: the least set", t.fair(1), 0b001);
        TugRope alike = of(3, 3);
        check.is("two alike are both needed", alike.needed(), 0b11);
        check.is("fair", alike.fair(1), 1);
        check.is("fewest", alike.fewest(1), 3);
        TugRope odd = of(1, 2, 4);
        check.is("fair: 3 and 4", odd.fair(0), 1);
        check.is("fair: the least set", odd.fair(1), 0b011);
        check.is("one outweighs", odd.fewest(0), 1);
        check.is("one outweighs", odd.fewest(1), 0b100);
        check.is("needed", odd.needed(), 0b100);
        check.is("swings of nobody's", odd.swings(0), 0);
        check.is("shares of all", odd.shares(2), 6);
    }

    private static void one() {
        TugRope t = of(7);
        check.is("fair 0", t.fair(0), 7);
        check.is("fair 1", t.fair(1), 0);
        check.is("swings", t.swings(0), 1);
        check.is("shares", t.shares(0), 1);
        check.is("fewest", t.fewest(1), 1);
        check.is("needed", t.needed(), 1);
    }

    private static void nobody() {
        TugRope t = Check.made("rope 9 0");
        check.is("fair 0", t.fair(0), 0);
        check.is("fair 1", t.fair(1), 0);
        check.is("swings", t.swings(0), -1);
        check.is("shares", t.shares(0), -1);
        check.is("fewest 0", t.fewest(0), -2);
        check.is("fewest 1", t.fewest(1), -2);
        check.is("fewest 2", t.fewest(2), -1);
        check.is("needed", t.needed(), 0);
    }

    private static void eight() {
        TugRope t = of(1, 1, 1, 1, 1, 1, 1, 1);
        check.is("swings: C(7, 4)", t.swings(3), 35);
        check.is("shares: 8! / 8", t.shares(3), 5040);
        check.is("fewest", t.fewest(0), 5);
        check.is("fewest set", t.fewest(1), 0b11111);
        check.is("fair", t.fair(1), 0b1111);
        TugRope strong = of(40, 1, 1, 1, 1, 1, 1, 1);
        check.is("shares of the strong one", strong.shares(0), 40320);
        check.is("swings of the strong one", strong.swings(0), 128);
    }

    private static void withoutRope() {
        TugRope t = new TugRope();
        check.is("fair", t.fair(0), -1);
        check.is("swings", t.swings(0), -1);
        check.is("shares", t.shares(0), -1);
        check.is("fewest", t.fewest(0), -1);
        check.is("needed", t.needed(), -1);
    }

    private static void strengthIsAsTold() {
        TugRope t = of(4, 3, 2, 1);
        t.heave();
        t.send(0);
        t.send(3);
        check.is("fair", t.fair(1), 0b0110);
        check.is("swings", t.swings(0), 5);
    }
}
