/** The edges that the document names of HEAVES, a test for each sentence (its part II, promises 7 to 9). */
public final class TugEdgesTest {
    private static final Check check = new Check();

    public static void main(String[] args) {
        overAtTheLine();
        allAtOnceAsTheHeaveBegins();
        whoIsDownMakesNoEffort();
        workedAtMost();
        twoMoreByResting();
        noMoreThanWasTold();
        quarterTowardsNothing();
        upToNinetyNine();
        standAgain();
        slipByBoots();
        firstDownTheRope();
        sideItGoesAwayFrom();
        nobodySlipsByNothing();
        quarterIsNotCut();
        overNothingHappens();
        lastHeaveByHand();
        nobodyThere();
        whatOfAPuller();
        ribbonAndAHundred();
        check.close("TugEdgesTest");
    }

    private static void all(TugRope t, int what, int... due) {
        for (int who = 0; who < due.length; who++) {
            check.is("puller(" + who + ", " + what + ")", t.puller(who, what), due[who]);
        }
    }

    /** The RIBBON then, of one who draws as many as that towards SIDE 1 (by 40 at most in a PULLER), or 0. */
    private static TugRope drawing(int draw, int mud, String others) {
        StringBuilder text = new StringBuilder("rope 60 ").append(mud);
        int left = Math.abs(draw);
        for (; left > 0; left -= Math.min(left, 40)) {
            text.append(";puller ").append(draw > 0 ? 1 : 0).append(' ').append(Math.min(left, 40)).append(" 60 9");
        }
        return Check.made(text + others, "pull 1");
    }

    private static void overAtTheLine() {
        // 3 to where the LINE is, one more each HEAVE
        for (int line : new int[] {1, 2, 9, 60}) {
            for (int side = 0; side < 2; side++) {
                TugRope t = Check.made("rope " + line + " 0;puller " + side + " 4 60 9", "pull 1");
                for (int far = 0; far < line; far++) {
                    check.is("LINE " + line + ", " + far + " far", t.count(8), 0);
                    t.heave();
                }
                check.is("LINE " + line + ", at it", t.ribbon(), side == 0 ? 100 - line : 100 + line);
                check.is("LINE " + line + ", at it", t.count(8), 1);
                check.is("for that SIDE", t.over(1), side);
            }
        }
        TugRope beyond = Check.made("rope 1 0;puller 0 40 60 9", "pull 3");
        check.is("beyond it", beyond.heave(), 70);
        check.is("beyond it", beyond.count(8), 1);
    }

    private static void allAtOnceAsTheHeaveBegins() {
        TugRope t = Check.made("rope 60 0;puller 1 4 60 9;puller 1 4 60 9;puller 0 4 60 9",
            "pull 1 if wind = 60 and ribbon = 0 and worked = 0 and heave = 0;pull 3 if puller = 2");
        t.heave();
        all(t, 6, 1, 1, 1);
        t.heave();
        all(t, 6, 1, 1, 4);
    }

    private static void whoIsDownMakesNoEffort() {
        TugRope t = Check.made("rope 60 9;puller 1 8 60 9;puller 0 4 20 0;puller 0 4 20 0", "pull 3 if side = 1;pull 1");
        t.heave();
        check.is("1 slips", t.count(7), 0b101);
        all(t, 6, 3, 1, 1);
        t.heave();
        all(t, 6, 6, 1, 2);
        all(t, 2, 54, 20, 18);
    }

    private static void workedAtMost() {
        TugRope t = Check.made("rope 60 0;puller 1 1 60 9;puller 0 1 60 9", "pull 3 if side = 1");
        // 996 in 332 HEAVES by 3, of which WIND gives 20, and 9 by hand for each 3 more
        for (int i = 0; i < 332; i++) {
            if (i >= 20 && i % 3 == 2) {
                t.breath(0, 9);
            }
            t.heave();
        }
        check.is("996", t.puller(0, 6), 996);
        t.breath(0, 9);
        t.heave();
        check.is("999", t.puller(0, 6), 999);
        t.heave();
        check.is("at most", t.puller(0, 6), 999);
        check.is("all together", t.count(9), 999);
        check.is("pence go by that", t.pence(9999, 0), 9999);
        TugRope two = Check.made("rope 60 0;puller 1 1 60 9", "pull 2 if heave = 0;pull 3");
        for (int i = 0; i < 333; i++) {
            if (i >= 20 && i % 3 == 2) {
                two.breath(0, 9);
            }
            two.heave();
        }
        check.is("998", two.puller(0, 6), 998);
        two.breath(0, 9);
        two.heave();
        check.is("998 and 3 are 999", two.puller(0, 6), 999);
    }

    private static void twoMoreByResting() {
        // told 9; what is left behind 1, 2 and 3 HEAVES of 3, then one of rest
        for (int pulls = 1; pulls <= 3; pulls++) {
            TugRope t = Check.made("rope 60 0;puller 1 1 9 9", "pull 3 if heave < " + pulls);
            for (int i = 0; i < pulls; i++) {
                t.heave();
            }
            all(t, 2, 9 - 3 * pulls);
            t.heave();
            all(t, 2, 11 - 3 * pulls);
            all(t, 6, 3 * pulls);
        }
        // 0 by WIND, not by the RULE, is a rest as well
        TugRope spent = Check.made("rope 60 0;puller 1 4 3 9", "pull 3");
        check.is("3", spent.heave(), 103);
        all(spent, 2, 0);
        check.is("none", spent.heave(), 103);
        all(spent, 2, 2);
        check.is("2", spent.heave(), 105);
        all(spent, 2, 0);
    }

    private static void noMoreThanWasTold() {
        for (int told = 0; told <= 3; told++) {
            TugRope t = Check.made("rope 60 0;puller 1 1 " + told + " 9", "pull 3 if heave = 0");
            t.heave();
            all(t, 2, 0);
            t.heave();
            all(t, 2, Math.min(told, 2));
            t.heave();
            all(t, 2, told);
            t.heave();
            all(t, 2, told);
        }
        // one less than was told, and more than was told
        TugRope one = Check.made("rope 60 0;puller 1 1 8 9", "pull 1 if heave = 0");
        one.heave();
        all(one, 2, 7);
        one.heave();
        all(one, 2, 8);
        one.breath(0, 1);
        one.heave();
        all(one, 2, 9);
        one.breath(0, 9);
        one.heave();
        all(one, 2, 18);
        TugRope most = Check.made("rope 60 0;puller 1 1 60 9", "pull 1 if heave = 0");
        most.heave();
        most.heave();
        all(most, 2, 60);
    }

    private static void quarterTowardsNothing() {
        for (int draw = 0; draw <= 13; draw++) {
            check.is("a quarter of " + draw, drawing(draw, 0, "").heave(), 100 + draw / 4);
            check.is("a quarter of -" + draw, drawing(-draw, 0, "").heave(), 100 - draw / 4);
        }
        // what both draw goes together first: 7 less 4, 4 less 7
        check.is("3", drawing(7, 0, ";puller 0 4 60 9").heave(), 100);
        check.is("4", drawing(8, 0, ";puller 0 4 60 9").heave(), 101);
        check.is("-3", drawing(-7, 0, ";puller 1 4 60 9").heave(), 100);
        check.is("-4", drawing(-8, 0, ";puller 1 4 60 9").heave(), 99);
    }

    private static void upToNinetyNine() {
        // from 59 by 39, 40 and 41; from -59 likewise
        int[] draws = {156, 160, 164, 168};
        int[] due = {98, 99, 99, 99};
        for (int i = 0; i < draws.length; i++) {
            check.is("59 and " + draws[i] / 4, drawing(draws[i], 0, ";ribbon 118").heave(), 100 + due[i]);
            check.is("-59 and -" + draws[i] / 4, drawing(-draws[i], 0, ";ribbon 0").heave(), 100 - due[i]);
        }
        String eight = "rope 60 9" + ";puller 1 40 60 9".repeat(8);
        check.is("as far as can be drawn", Check.made(eight + ";ribbon 118", "pull 3").heave(), 199);
        check.is("as far as can be drawn", Check.made(eight.replace("r 1", "r 0") + ";ribbon 0", "pull 3").heave(), 1);
    }

    private static void standAgain() {
        TugRope t = Check.made("rope 60 9;puller 1 8 60 9;puller 0 1 60 0", "pull 1 if heave = 0 and side = 1");
        t.heave();
        check.is("down", t.count(7), 0b01);
        all(t, 5, 1, 0);
        t.heave();
        check.is("in the next alone", t.count(7), 0b11);
        all(t, 5, 1, 1);
        // one more is down each HEAVE, the one before stands again
        TugRope turn = Check.made("rope 60 9;puller 1 8 60 0;puller 0 20 60 0", "pull 1 if side = heave % 2");
        check.is("towards 0", turn.heave(), 95);
        check.is("0 slips", turn.count(7), 0b10);
        check.is("nobody who can pulls", turn.heave(), 95);
        check.is("both stand", turn.count(7), 0b11);
    }

    private static void slipByBoots() {
        // by 1 with MUD 9: fewer than 5; by 6 with MUD 0: fewer than 1; by 5 with MUD 0: fewer than 0
        slips(4, 9, 4, true);
        slips(4, 9, 5, false);
        slips(24, 0, 0, true);
        slips(24, 0, 1, false);
        slips(20, 0, 0, false);
        slips(4, 4, 0, false);
        slips(4, 5, 0, true);
        slips(4, 0, 0, false);
        slips(56, 0, 8, true);
        slips(56, 0, 9, false);
        slips(60, 0, 9, true);
        slips(20, 9, 8, true);
        slips(20, 9, 9, false);
        slips(24, 9, 9, true);
        // 27 is 6 quarters, too, and 28 is 7
        slips(27, 9, 9, true);
        slips(23, 9, 9, false);
        slips(27, 0, 1, false);
        slips(28, 0, 1, true);
    }

    private static void slips(int draw, int mud, int boots, boolean due) {
        for (int side = 0; side < 2; side++) {
            int drawn = side == 0 ? draw : -draw;
            TugRope t = drawing(drawn, mud, ";puller " + side + " 1 0 " + boots);
            int last = t.count(2) - 1;
            t.heave();
            check.is("drawn by " + drawn + ", mud " + mud + ", boots " + boots, t.puller(last, 5), due ? 0 : 1);
            check.is("nobody else", t.count(7) | 1 << last, (2 << last) - 1);
        }
    }

    private static void firstDownTheRope() {
        String pulled = ";puller 0 1 0 9;puller 0 1 0 5;puller 0 1 0 0;puller 0 1 0 0";
        TugRope t = drawing(8, 9, pulled);
        t.heave();
        check.is("fewer than 6: the second", t.count(7), 0b11011);
        TugRope moved = drawing(8, 9, pulled);
        moved.front(4);
        moved.heave();
        check.is("the last told is the first now", moved.count(7), 0b01111);
        TugRope none = drawing(8, 9, pulled.replace("5", "9").replace("0 0", "0 9"));
        none.heave();
        check.is("none has so few", none.count(7), 0b11111);
    }

    private static void sideItGoesAwayFrom() {
        String both = ";puller 0 1 0 0;puller 1 1 0 0";
        TugRope one = drawing(8, 9, both);
        one.heave();
        check.is("away from SIDE 0", one.count(7), 0b101);
        TugRope other = drawing(-8, 9, both);
        other.heave();
        check.is("away from SIDE 1", other.count(7), 0b011);
        // it is the way it goes, not where it is
        TugRope there = drawing(8, 9, both + ";ribbon 10");
        there.heave();
        check.is("away from SIDE 0, on the way to 0", there.count(7), 0b101);
    }

    private static void nobodySlipsByNothing() {
        for (int draw : new int[] {-3, -1, 0, 1, 3}) {
            TugRope t = drawing(draw, 9, ";puller 0 1 0 0;puller 1 1 0 0");
            int all = t.count(7);
            t.heave();
            check.is("quarter 0 of " + draw, t.count(7), all);
        }
    }

    private static void quarterIsNotCut() {
        // 59 and 60 are 99, but by 60 those with BOOTS 9 slip; and 40 more would not be 60
        TugRope t = drawing(240, 0, ";puller 0 1 0 9;ribbon 118");
        check.is("up to 99", t.heave(), 199);
        check.is("down", t.count(7), 0b0111111);
        // by 13 from 59 it is 72: the quarter and MUD less 5 is 8
        TugRope few = drawing(52, 0, ";puller 0 1 0 7;ribbon 118");
        few.heave();
        check.is("down", few.count(7), 0b011);
    }

    private static void overNothingHappens() {
        TugRope t = States.over();
        check.is("over", t.count(8), 1);
        check.is("acts", t.count(11), 2);
        for (int heave = 2; heave < 5; heave++) {
            check.is("HEAVE", t.count(5), heave);
            check.is("ribbon", t.heave(), 108);
            check.is("who is down stays so", t.count(7), 0b101);
            all(t, 2, 58, 9, 9);
            all(t, 6, 2, 0, 0);
            check.is("it is an ACT", t.count(11), heave + 1);
        }
        check.is("undone", t.undo(), 4);
        check.is("HEAVE", t.count(5), 4);
        // at the LINE itself, of both SIDES
        for (int side = 0; side < 2; side++) {
            TugRope at = Check.made("rope 3 0;puller " + side + " 12 9 9", "pull 1");
            int there = at.heave();
            check.is("at the LINE", there, side == 0 ? 97 : 103);
            check.is("nothing happens", at.heave(), there);
            check.is("nobody works", at.count(9), 1);
            check.is("HEAVE", at.count(5), 2);
        }
    }

    /** More calls than an object is used for, on purpose: by hand there is no other way to HEAVE 999. */
    private static void lastHeaveByHand() {
        TugRope t = Check.made("rope 60 0;puller 1 4 60 9", "pull 1 if heave = 998 or heave = 999");
        for (int i = 0; i < 998; i++) {
            check.is("by hand", t.heave(), 100);
        }
        check.is("HEAVE 998", t.heave(), 101);
        check.is("then 999", t.count(5), 999);
        check.is("no more by hand", t.heave(), -1);
        check.is("nothing happens", t.count(5), 999);
        check.is("nothing happens", t.ribbon(), 101);
        check.is("those that are asked go on", t.ahead(0, 1, 0), 102);
        check.is("HEAVE 999 pulls, 1000 does not", t.ahead(0, 3, 0), 102);
        check.is("and are told by their numbers: by then WIND is 60 again", t.alike(0), 1001);
        t.undo();
        check.is("998 again", t.heave(), 101);
    }

    private static void nobodyThere() {
        TugRope t = Check.made("rope 1 9");
        check.is("heave", t.heave(), 100);
        check.is("HEAVE", t.count(5), 1);
        check.is("nobody stands", t.count(7), 0);
        check.is("undone", t.undo(), 0);
    }

    private static void whatOfAPuller() {
        TugRope t = States.busy();
        int[] first = {0, 10, 1, 3, 1, 1, 5};
        for (int what = 0; what < 7; what++) {
            check.is("puller(0, " + what + ")", t.puller(0, what), first[what]);
        }
        check.is("what -1", t.puller(0, -1), -1);
        check.is("what 7", t.puller(0, 7), -1);
        check.is("the last", t.puller(3, 1), 9);
        check.is("behind the last", t.puller(4, 1), -1);
        check.is("ahead of the first", t.puller(-1, 1), -1);
        check.is("without a ROPE", new TugRope().puller(0, 1), -1);
        check.is("of nobody", Check.made("rope 1 0").puller(0, 1), -1);
        check.is("the eighth", States.full().puller(7, 1), 39);
        check.is("a ninth", States.full().puller(8, 1), -1);
    }

    private static void ribbonAndAHundred() {
        check.is("at 0", Check.made("rope 1 0").ribbon(), 100);
        check.is("at -59", Check.made("rope 60 0;ribbon 0").ribbon(), 41);
        check.is("at 59", Check.made("rope 60 0;ribbon 118").ribbon(), 159);
        TugRope most = drawing(240, 0, ";ribbon 118");
        most.heave();
        check.is("at 99", most.ribbon(), 199);
        TugRope least = drawing(-240, 0, ";ribbon 0");
        least.heave();
        check.is("at -99", least.ribbon(), 1);
        check.is("without a ROPE", new TugRope().ribbon(), -1);
        check.is("heave without a ROPE", new TugRope().heave(), -1);
    }
}
