/** The edges that the document names of how it goes on, a test for each sentence (promises 20 to 24, 27 to 29). */
public final class AskEdgesTest {
    private static final Check check = new Check();
    private static final String ONE = "rope 60 0;puller 1 4 60 9";

    public static void main(String[] args) {
        aheadNoneToAHundred();
        aheadOfWhom();
        overOfTwoHundred();
        overAlready();
        overBehindNone();
        rowOfOneToFour();
        rowNoMoreThanWind();
        rowOfWhoIsDown();
        rowOfSeveralTheFirst();
        rowBelowNothing();
        rowWhenOver();
        tradeOfOneToForty();
        tradeOfSeveral();
        tradeOfNone();
        tradeWithSideAndPlace();
        outOfOneToForty();
        outOfSeveral();
        restsOfOneToTwenty();
        restsOfNone();
        restsOfTwoUnlike();
        restsOfWhoIsDown();
        alikeOfSixty();
        alikeSixtyLater();
        alikeInAll();
        penceRange();
        penceWhatIsLeft();
        penceIfNobodyHas();
        check.close("AskEdgesTest");
    }

    private static void aheadNoneToAHundred() {
        TugRope last = Check.made(ONE, "pull 1 if heave = 99");
        check.is("0: as it is", last.ahead(0, 0, 0), 100);
        check.is("0: as it is", last.ahead(0, 0, 1), 60);
        check.is("0: as it is", last.ahead(0, 0, 2), 1);
        check.is("99", last.ahead(0, 99, 0), 100);
        check.is("100", last.ahead(0, 100, 0), 101);
        check.is("100", last.ahead(0, 100, 1), 59);
        check.is("101", last.ahead(0, 101, 0), -1);
        check.is("-1", last.ahead(0, -1, 0), -1);
        TugRope beyond = Check.made(ONE, "pull 1 if heave = 100");
        check.is("HEAVE 100 is not of 100", beyond.ahead(0, 100, 0), 100);
        beyond.heave();
        check.is("from HEAVE 1 on it is", beyond.ahead(0, 100, 0), 101);
        check.is("from HEAVE 1 on it is", beyond.ahead(0, 99, 0), 100);
        TugRope down = States.over();
        check.is("who is down is, as it is", down.ahead(0, 0, 2), 0b101);
        check.is("over, so nothing happens", down.ahead(0, 100, 2), 0b101);
        check.is("over, so nothing happens", down.ahead(1, 100, 1), 9);
    }

    private static void aheadOfWhom() {
        TugRope t = Check.made(States.FOUR);
        check.is("the last", t.ahead(3, 1, 1), 3);
        check.is("behind the last", t.ahead(4, 1, 1), -1);
        check.is("ahead of the first", t.ahead(-1, 1, 1), -1);
        for (int who : new int[] {Integer.MIN_VALUE, -1, 4, Integer.MAX_VALUE}) {
            check.is("for the RIBBON nobody is asked", t.ahead(who, 1, 0), 102);
            check.is("for who STANDS nobody is asked", t.ahead(who, 1, 2), 15);
        }
        TugRope nobody = Check.made("rope 9 0");
        check.is("of nobody", nobody.ahead(0, 1, 1), -1);
        check.is("of nobody", nobody.ahead(0, 100, 0), 100);
        check.is("of nobody", nobody.ahead(0, 100, 2), 0);
    }

    private static void overOfTwoHundred() {
        String rope = "rope 1 0;puller 1 4 60 9;puller 0 4 60 9";
        for (int side = 0; side < 2; side++) {
            TugRope last = Check.made(rope, "pull 1 if heave = 199 and side = " + side);
            check.is("HEAVE 199", last.over(0), 199);
            check.is("its SIDE", last.over(1), side);
            TugRope beyond = Check.made(rope, "pull 1 if heave = 200 and side = " + side);
            check.is("HEAVE 200", beyond.over(0), -2);
            check.is("HEAVE 200", beyond.over(1), -2);
            beyond.heave();
            check.is("from HEAVE 1 on", beyond.over(0), 200);
            check.is("from HEAVE 1 on", beyond.over(1), side);
            TugRope first = Check.made(rope, "pull 1 if side = " + side);
            check.is("this one is the first", first.over(0), 0);
            check.is("this one is the first", first.over(1), side);
        }
    }

    private static void overAlready() {
        TugRope one = States.over();
        check.is("behind this one it is", one.over(0), 2);
        check.is("for SIDE 1", one.over(1), 1);
        TugRope other = Check.made("rope 1 0;puller 0 4 9 9");
        other.heave();
        check.is("behind this one it is", other.over(0), 1);
        check.is("for SIDE 0", other.over(1), 0);
    }

    private static void overBehindNone() {
        TugRope almost = Check.made("rope 60 0;puller 1 4 59 9", "pull 1 if worked < 59");
        check.is("59 is not 60", almost.over(0), -2);
        TugRope just = Check.made("rope 60 0;puller 1 4 60 9", "pull 1 if worked < 60");
        check.is("60 is", just.over(0), 59);
        check.is("nobody", Check.made("rope 1 0").over(0), -2);
        check.is("nobody", Check.made("rope 1 0").over(1), -2);
        check.is("others", just.over(2), -1);
        check.is("others", just.over(-1), -1);
    }

    private static void row(TugRope t, int who, int far, int... efforts) {
        int n = efforts.length;
        check.is("row of " + n + ", how far", t.row(who, n, 0), far);
        for (int i = 1; i <= n; i++) {
            check.is("row of " + n + ", heave " + i, t.row(who, n, i), efforts[i - 1]);
        }
        for (int i = n + 1; i <= 4; i++) {
            check.is("so many there are not", t.row(who, n, i), -1);
        }
        check.is("what 5", t.row(who, n, 5), -2);
        check.is("what -1", t.row(who, n, -1), -2);
    }

    private static void rowOfOneToFour() {
        TugRope t = Check.made(ONE, "pull 0");
        row(t, 0, 103, 3);
        row(t, 0, 106, 3, 3);
        row(t, 0, 109, 3, 3, 3);
        row(t, 0, 112, 3, 3, 3, 3);
        check.is("none", t.row(0, 0, 0), -2);
        check.is("five", t.row(0, 5, 0), -2);
        check.is("none", t.row(0, 0, 1), -2);
        check.is("behind the last", t.row(1, 1, 0), -2);
        check.is("ahead of the first", t.row(-1, 1, 0), -2);
        check.is("behind the last, more than there are", t.row(1, 1, 2), -2);
        check.is("without a ROPE", new TugRope().row(0, 1, 0), -2);
        check.is("without a ROPE, more than there are", new TugRope().row(0, 1, 4), -2);
        // the other one goes on by the RULE, and draws it 2 away in the last: 9 of WIND bring 7
        TugRope two = Check.made("rope 60 0;puller 0 4 9 9;puller 1 8 9 9", "pull 1 if heave = 3");
        row(two, 0, 107, 0, 3, 3, 3);
    }

    private static void rowNoMoreThanWind() {
        row(Check.made("rope 60 0;puller 1 4 0 9"), 0, 100, 0, 0, 0, 0);
        row(Check.made("rope 60 0;puller 1 4 1 9"), 0, 101, 1);
        row(Check.made("rope 60 0;puller 1 4 2 9"), 0, 104, 2, 0, 2);
        row(Check.made("rope 60 0;puller 1 4 12 9"), 0, 112, 3, 3, 3, 3);
        row(Check.made("rope 60 0;puller 1 4 11 9"), 0, 111, 2, 3, 3, 3);
    }

    private static void rowOfWhoIsDown() {
        TugRope t = Check.made("rope 60 9;puller 1 8 60 0;puller 0 4 60 0", "pull 3 if side = 1 and heave = 0");
        t.heave();
        check.is("down", t.count(7), 0b01);
        row(t, 1, 94, 0);
        row(t, 1, 97, 0, 3);
    }

    private static void rowOfSeveralTheFirst() {
        // a quarter of 3 is 0: whatever it is, the RIBBON stays
        row(Check.made("rope 60 0;puller 1 1 60 9"), 0, 100, 0, 0, 0, 0);
        // a quarter of 4 to 7 is 1: 2 and 3 by STRONG 2 are alike
        row(Check.made("rope 60 0;puller 1 2 60 9"), 0, 104, 2, 2, 2, 2);
        // WIND 3 comes back by two HEAVES of rest
        row(Check.made("rope 60 0;puller 1 4 3 9"), 0, 106, 3, 0, 0, 3);
    }

    private static void rowBelowNothing() {
        String strong = ";puller 1 40 60 9".repeat(7);
        TugRope t = Check.made("rope 60 0;puller 0 1 0 9" + strong + ";ribbon 118", "pull 3");
        row(t, 0, 1, 0, 0, 0, 0);
        TugRope best = Check.made("rope 60 0;puller 1 1 0 9" + strong.substring(17) + ";puller 1 40 60 9;ribbon 118", "pull 3");
        row(best, 0, 199, 0, 0, 0, 0);
        TugRope less = Check.made("rope 60 0;puller 0 4 60 9;puller 1 40 60 9", "pull 2");
        row(less, 0, 83, 3);
    }

    private static void rowWhenOver() {
        row(States.over(), 0, 108, 0, 0, 0, 0);
        row(States.over(), 1, 92, 0, 0, 0, 0);
        // at the LINE in the first already, so that no more can be: 1, then 3
        row(Check.made("rope 2 0;puller 1 4 9 0"), 0, 104, 1, 3);
    }

    private static void trade(TugRope t, int n, int near, int one, int other) {
        check.is("trade of " + n + ", how near", t.trade(n, 0), near);
        check.is("trade of " + n + ", of SIDE 0", t.trade(n, 1), one);
        check.is("trade of " + n + ", of SIDE 1", t.trade(n, 2), other);
    }

    private static void tradeOfOneToForty() {
        String rope = "rope 60 0;puller 0 4 60 9;puller 1 12 60 9;puller 1 8 60 9";
        trade(Check.made(rope, "pull 1"), 1, 0, 0, 1);
        TugRope last = Check.made(rope, "pull 1 if heave = 39");
        trade(last, 39, 0, -1, -1);
        trade(last, 40, 0, 0, 1);
        TugRope beyond = Check.made(rope, "pull 1 if heave = 40");
        trade(beyond, 40, 0, -1, -1);
        beyond.heave();
        trade(beyond, 40, 0, 0, 1);
        for (int n : new int[] {-1, 0, 41}) {
            trade(last, n, -2, -2, -2);
        }
        check.is("what -1", last.trade(40, -1), -2);
        check.is("what 3", last.trade(40, 3), -2);
        trade(new TugRope(), 1, -2, -2, -2);
    }

    private static void tradeOfSeveral() {
        // none is as near as any
        trade(Check.made("rope 60 0;puller 0 4 60 9;puller 1 8 60 9", "pull 1"), 1, 1, -1, -1);
        // 1 and 3 on SIDE 1, 0 and 2 on SIDE 0: each of four twos is as near, and nearer than none
        String four = "rope 60 0;puller 0 4 60 9;puller 1 12 60 9;puller 0 4 60 9;puller 1 12 60 9";
        trade(Check.made(four, "pull 1"), 1, 0, 0, 1);
        trade(Check.made(four.replace("r 0", "r 2").replace("r 1", "r 0").replace("r 2", "r 1"), "pull 1"), 1, 0, 1, 0);
        // the last of each alone is best
        TugRope best = Check.made("rope 60 0;puller 0 40 60 9;puller 1 40 60 9;puller 0 4 60 9;puller 1 8 60 9;ribbon 60", "pull 1");
        trade(best, 1, 0, 2, 3);
    }

    private static void tradeOfNone() {
        trade(Check.made("rope 9 0;ribbon 16"), 40, 8, -1, -1);
        trade(Check.made("rope 60 0;puller 1 8 60 9;puller 1 4 60 9", "pull 1"), 1, 3, -1, -1);
        trade(Check.made("rope 60 0;puller 0 8 60 9;puller 0 4 60 9", "pull 1"), 1, 3, -1, -1);
        trade(States.over(), 40, 8, -1, -1);
    }

    private static void tradeWithSideAndPlace() {
        // who is the first of a SIDE pulls: 16 less 8, and no change comes nearer than 2
        String rope = "rope 60 0;puller 0 8 60 9;puller 0 16 60 9;puller 1 16 60 9;puller 1 24 60 9";
        TugRope t = Check.made(rope, "pull 1 if place = 0");
        trade(t, 1, 2, -1, -1);
        t.front(1);
        // 16 less 16
        trade(t, 1, 0, -1, -1);
        t.front(3);
        // 24 less 16; those who change come to the place of the other one, not to the front or the end
        trade(t, 1, 2, -1, -1);
        // who has one ahead pulls: 2, by 4; 0 in that place by 1, while 3, behind it, stays behind it
        TugRope last = Check.made("rope 60 0;puller 0 4 60 9;puller 1 40 60 9;puller 1 16 60 9;puller 1 40 60 9",
            "pull 1 if place = 1");
        trade(last, 1, 1, 0, 2);
        check.is("nothing stays", last.puller(0, 4), 0);
    }

    private static void out(TugRope t, int n, int who, int near) {
        check.is("out of " + n + ", who", t.out(n, 0), who);
        check.is("out of " + n + ", how near", t.out(n, 1), near);
    }

    private static void outOfOneToForty() {
        String rope = "rope 60 0;puller 0 4 60 9;puller 1 4 60 9;puller 1 4 60 9";
        out(Check.made(rope, "pull 1"), 1, 1, 0);
        TugRope last = Check.made(rope, "pull 1 if heave = 39");
        out(last, 39, -1, 0);
        out(last, 40, 1, 0);
        TugRope beyond = Check.made(rope, "pull 1 if heave = 40");
        out(beyond, 40, -1, 0);
        beyond.heave();
        out(beyond, 40, 1, 0);
        for (int n : new int[] {-1, 0, 41}) {
            out(last, n, -2, -2);
        }
        check.is("what -1", last.out(40, -1), -2);
        check.is("what 2", last.out(40, 2), -2);
        out(new TugRope(), 1, -2, -2);
    }

    private static void outOfSeveral() {
        // nobody is as near as any; then the least; the last alone
        out(Check.made("rope 60 0;puller 1 3 60 9", "pull 1"), 1, -1, 0);
        out(Check.made("rope 60 0;puller 0 4 60 9;puller 1 4 60 9", "pull 1"), 40, -1, 0);
        out(Check.made("rope 60 0;puller 1 4 60 9;puller 1 4 60 9", "pull 1"), 1, 0, 1);
        out(Check.made("rope 60 0;puller 1 4 60 9;puller 1 8 60 9", "pull 1"), 1, 1, 1);
        out(Check.made("rope 9 0;ribbon 16"), 40, -1, 8);
        out(States.over(), 40, -1, 8);
        // for good: 3 in each of two HEAVES, so it is 0 and not 3
        out(Check.made("rope 60 0;puller 1 4 60 9", "pull 3"), 2, 0, 0);
    }

    /** What is due, made of AHEAD by RULES that tell the two what to do: how many, and the first two. */
    private static int[] restsDue(String rope, int one, int other, int n) {
        int[] oneHas = new int[16];
        int[] otherHas = new int[16];
        for (int two = 0; two < 16; two++) {
            TugRope t = Check.made(rope, "pull " + two / 4 + " if puller = " + one + ";pull " + two % 4 + " if puller = " + other
                + ";pull 1");
            int ribbon = t.ahead(0, n, 0) - 100;
            oneHas[two] = (t.puller(one, 0) == 1 ? ribbon : -ribbon) + t.ahead(one, n, 1);
            otherHas[two] = (t.puller(other, 0) == 1 ? ribbon : -ribbon) + t.ahead(other, n, 1);
        }
        int[] due = {0, -2, -2};
        for (int two = 0; two < 16; two++) {
            boolean stays = true;
            for (int e = 0; e < 4; e++) {
                stays &= oneHas[4 * e + two % 4] <= oneHas[two] && otherHas[two / 4 * 4 + e] <= otherHas[two];
            }
            if (stays && due[0]++ == 0) {
                due[1] = two / 4;
                due[2] = two % 4;
            }
        }
        return due;
    }

    private static int[] rests(String rope, int one, int other, int n) {
        TugRope t = Check.made(rope, "pull 1");
        int[] due = restsDue(rope, one, other, n);
        for (int what = 0; what < 3; what++) {
            check.is("rests of " + n + " what " + what + ", " + rope, t.rests(one, other, n, what), due[what]);
        }
        return due;
    }

    private static void restsOfOneToTwenty() {
        String rope = "rope 60 9;puller 0 9 40 3;puller 1 6 20 1;puller 1 3 60 5";
        for (int n = 1; n <= 20; n++) {
            rests(rope, 0, 1, n);
            rests(rope, 1, 2, n);
            rests("rope 60 0;puller 0 5 19 9;puller 1 5 20 9", 1, 0, n);
        }
        TugRope t = Check.made(rope, "pull 1");
        for (int what = 0; what < 3; what++) {
            check.is("none", t.rests(0, 1, 0, what), -1);
            check.is("21", t.rests(0, 1, 21, what), -1);
            check.is("-1", t.rests(0, 1, -1, what), -1);
        }
        // 20 of WIND by STRONG 8: 2 and 3 both come to the LINE, at 60, in the 20th and the 17th HEAVE
        TugRope last = Check.made("rope 60 0;puller 0 8 20 9;puller 1 1 0 9");
        check.is("in 20 both 2 and 3, by four of the other one", last.rests(0, 1, 20, 0), 8);
        check.is("in 20 the first is 2", last.rests(0, 1, 20, 1), 2);
        check.is("in 19 it is 3 alone", last.rests(0, 1, 19, 0), 4);
        check.is("in 19 it is 3 alone", last.rests(0, 1, 19, 1), 3);
    }

    private static void restsOfNone() {
        int[] due = rests("rope 4 0;puller 0 13 5 4;puller 1 13 1 3", 0, 1, 3);
        check.is("there is none", due[0], 0);
        check.is("there is none", due[1], -2);
        TugRope t = Check.made("rope 4 0;puller 0 13 5 4;puller 1 13 1 3", "pull 1");
        check.is("none", t.rests(0, 1, 3, 0), 0);
        check.is("none", t.rests(0, 1, 3, 1), -2);
        check.is("none", t.rests(0, 1, 3, 2), -2);
        check.is("others", t.rests(0, 1, 3, 3), -1);
        // by a quarter that is 0 whatever they do, resting is best, and the one rest there is
        rests("rope 60 0;puller 0 1 9 9;puller 1 1 9 9", 0, 1, 1);
        check.is("one", Check.made("rope 60 0;puller 0 1 9 9;puller 1 1 9 9").rests(0, 1, 1, 0), 1);
        // over, all is as it is
        check.is("all", States.over().rests(0, 1, 20, 0), 16);
        check.is("the first", States.over().rests(0, 1, 20, 1), 0);
        check.is("the first", States.over().rests(0, 1, 20, 2), 0);
    }

    private static void restsOfTwoUnlike() {
        TugRope t = Check.made(States.FOUR);
        for (int who = -1; who <= 4; who++) {
            check.is("one alone", t.rests(who, who, 1, 0), -1);
            check.is("one and nobody", t.rests(who, 4, 1, 0), -1);
            check.is("one and nobody", t.rests(-1, who, 1, 0), -1);
        }
        check.is("the first and the last", t.rests(0, 3, 1, 0) > 0 ? 1 : 0, 1);
        check.is("the last and the first", t.rests(3, 0, 1, 0), t.rests(0, 3, 1, 0));
        // two of one SIDE are two as well
        rests("rope 60 0;puller 1 8 9 9;puller 1 2 9 9;puller 0 4 9 9", 0, 1, 2);
    }

    private static void restsOfWhoIsDown() {
        TugRope t = Check.made("rope 60 9;puller 1 8 60 0;puller 0 8 60 0", "pull 3 if side = 1 and heave = 0");
        t.heave();
        check.is("down", t.count(7), 0b01);
        // 1 is down and makes 0 whatever it says; 0 has 2 for each 1
        check.is("rests", t.rests(0, 1, 1, 0), 4);
        check.is("the first", t.rests(0, 1, 1, 1), 3);
        check.is("the first", t.rests(0, 1, 1, 2), 0);
    }

    private static void alike(String when, TugRope t, int heave, int later) {
        check.is("alike " + when, t.alike(0), heave);
        check.is("how much later " + when, t.alike(1), later);
    }

    private static void alikeOfSixty() {
        // one nearer the LINE each HEAVE: as HEAVE 59 begins it is over, then all is as it is
        TugRope last = Check.made("rope 59 0;puller 1 4 60 9", "pull 1");
        alike("HEAVE 59 and 60", last, 59, 1);
        TugRope beyond = Check.made("rope 60 0;puller 1 4 60 9", "pull 1");
        alike("HEAVE 60 and 61 are not of these", beyond, -2, -2);
        beyond.heave();
        alike("from HEAVE 1 on they are", beyond, 60, 1);
        alike("nobody, at once", Check.made("rope 1 0"), 0, 1);
        alike("over, at once", States.over(), 2, 1);
        check.is("others", last.alike(2), -1);
        check.is("others", last.alike(-1), -1);
        check.is("without a ROPE", new TugRope().alike(0), -1);
    }

    private static void alikeSixtyLater() {
        // 40 HEAVES of 1, then 20 of rest: WIND is 60 again as HEAVE 60 begins
        TugRope sixty = Check.made("rope 60 0;puller 1 1 60 9", "pull 1 if heave < 40");
        alike("60 later", sixty, 0, 60);
        // 41 of 1: it would be 62 later; 57 comes again as HEAVE 60 begins
        TugRope more = Check.made("rope 60 0;puller 1 1 60 9", "pull 1 if heave < 41");
        alike("57 later", more, 3, 57);
        // 38, 36, 34 and so on, then 1 each: the first of several later ones
        TugRope several = Check.made("rope 60 0;puller 1 1 4 9", "pull 1 if heave % 3 < 2");
        alike("3 later, not 6", several, 0, 3);
    }

    private static void alikeInAll() {
        // the RIBBON alone is another
        TugRope ribbon = Check.made("rope 60 0;puller 1 4 0 9", "pull 1");
        ribbon.breath(0, 1);
        // WIND 1, 0, 0: as HEAVE 1 begins and later
        alike("ribbon and WIND", ribbon, 1, 1);
        // WIND 2, 0, 2, 0, and the RIBBON goes on
        TugRope on = Check.made("rope 60 0;puller 1 4 2 9");
        alike("the RIBBON is never there again, till it is over", on, 59, 1);
        // who is down alone: HEAVE 1 begins with one down, and is else as HEAVE 2
        TugRope down = Check.made("rope 60 9;puller 1 4 0 9;puller 0 4 0 0", "pull 1");
        down.breath(0, 1);
        alike("who STANDS", down, 2, 1);
        // WORKED, HEAVE and places do not count
        TugRope worked = Check.made("rope 60 0;puller 1 1 2 9");
        alike("WORKED is another", worked, 0, 2);
        // the eighth's WIND counts, too
        TugRope eighth = Check.made("rope 60 0" + ";puller 1 1 0 9".repeat(7) + ";puller 1 1 60 9", "pull 1 if heave < 5");
        alike("60, 59, 58, 57, 56, 55, 57, 59, 60", eighth, 0, 8);
        TugRope first = Check.made("rope 60 0;puller 1 1 60 9" + ";puller 1 1 0 9".repeat(7), "pull 1 if heave < 5");
        alike("60, 59, 58, 57, 56, 55, 57, 59, 60", first, 0, 8);
        alikeOfEight();
    }

    private static void alikeOfEight() {
        // all pull 1 and rest in turn, each WIND is as two HEAVES ago, but the RIBBON is 2 on, and then over
        TugRope on = Check.made("rope 60 0" + ";puller 1 1 60 9".repeat(8), "pull 1 if heave % 2 = 0");
        alike("the RIBBON goes on by 2, from HEAVE 59 on it is at the LINE", on, 59, 1);
        // one on by HEAVES 0 and 2, with 1 and 3 of rest: next to where it was, with all else alike
        TugRope next = Check.made("rope 4 0" + ";puller 1 4 0 9" + ";puller 1 1 1 9".repeat(7), "pull 1 if puller = 0 or heave > 90");
        next.breath(0, 1);
        alike("the RIBBON is one on, WIND is none and stays so", next, 1, 1);
        TugRope one = Check.made("rope 9 0;puller 1 4 2 9" + ";puller 1 1 60 9".repeat(7),
            "pull 1 if puller = 0 and heave % 2 = 0 and heave < 7");
        // 0, 1, 1, 2, 2, 3, 3, 4, 4 as HEAVES 0 to 8 begin, with WIND 2 and 1 in turn
        alike("the RIBBON one on is another", one, 8, 1);
        // 128 on in one HEAVE, from as far as can be set: WIND 2 at -59, 4 there, then 2 at 69
        TugRope far = Check.made("rope 60 0" + ";puller 1 40 4 9".repeat(6) + ";puller 1 16 4 9;puller 1 1 0 9",
            "pull 2 if heave % 2 = 0");
        far.heave();
        far.set(41);
        check.is("128 on", far.ahead(0, 2, 0), 169);
        alike("the RIBBON 128 on is another", far, 3, 1);
    }

    private static void pence(TugRope t, int much, int... due) {
        for (int who = 0; who < due.length; who++) {
            check.is("pence " + much + " of " + who, t.pence(much, who), due[who]);
        }
    }

    /** One HEAVE in which each WORKS as much as told. */
    private static TugRope worked(int... much) {
        StringBuilder rope = new StringBuilder("rope 60 0");
        StringBuilder rule = new StringBuilder();
        for (int who = 0; who < much.length; who++) {
            rope.append(";puller ").append(who % 2).append(" 1 60 9");
            rule.append(who == 0 ? "" : ";").append("pull ").append(much[who]).append(" if puller = ").append(who);
        }
        TugRope t = Check.made(rope.toString(), rule.toString());
        t.heave();
        return t;
    }

    private static void penceRange() {
        TugRope t = worked(1, 2, 3);
        pence(t, 0, 0, 0, 0, -1);
        pence(t, 6, 1, 2, 3, -1);
        pence(t, 9999, 1667, 3333, 4999, -1);
        pence(t, 10000, -1, -1, -1, -1);
        pence(t, -1, -1, -1, -1, -1);
        check.is("ahead of the first", t.pence(6, -1), -1);
        check.is("without a ROPE", new TugRope().pence(6, 0), -1);
        pence(worked(3, 3, 3, 3, 3, 3, 3, 3), 9999, 1250, 1250, 1250, 1250, 1250, 1250, 1250, 1249, -1);
    }

    private static void penceWhatIsLeft() {
        // parts downwards of 1: none; it goes to who lost most, of several the least
        pence(worked(1, 2, 3), 1, 0, 0, 1);
        pence(worked(3, 2, 3), 1, 1, 0, 0);
        pence(worked(1, 1, 1), 1, 1, 0, 0);
        pence(worked(1, 1, 1), 2, 1, 1, 0);
        pence(worked(1, 1, 1), 3, 1, 1, 1);
        // 5 of 6: 0 and 5 sixths, 1 and 4, 2 and 3: two are left
        pence(worked(1, 2, 3), 5, 1, 2, 2);
        // who has not WORKED has nothing, and lost nothing
        pence(worked(0, 1, 0, 1), 1, 0, 1, 0, 0);
        pence(worked(0, 3, 3, 1), 9999, 0, 4285, 4285, 1429);
        pence(worked(1, 1, 1, 1, 1, 1, 1, 1), 7, 1, 1, 1, 1, 1, 1, 1, 0);
    }

    private static void penceIfNobodyHas() {
        pence(worked(0, 0), 9999, 0, 0, -1);
        pence(Check.made(States.FOUR), 9999, 0, 0, 0, 0, -1);
        pence(Check.made("rope 1 0"), 9999, -1);
        pence(worked(0, 1), 9999, 0, 9999, -1);
        TugRope undone = worked(1, 1);
        undone.undo();
        pence(undone, 9999, 0, 0);
    }
}
