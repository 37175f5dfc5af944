/** Promises 6 to 14 and 35: RULES in force, HEAVES, ACTS, what is undone, counts. */
public final class HeaveTest {
    private static final Check check = new Check();
    private static final String GOOD = "rope 9 2;puller 0 10 6 3;puller 1 8 4 1;puller 0 4 9 9;puller 1 9 5 2;ribbon 9";

    public static void main(String[] args) {
        forcing();
        heavesWithoutRule();
        slipping();
        firstDownTheRope();
        matesWhoAreDown();
        resting();
        allAtOnce();
        farAway();
        overTheLine();
        workedAtMost();
        lastHeave();
        sending();
        fronting();
        breathing();
        setting();
        undoing();
        check.close("HeaveTest");
    }

    private static void forcing() {
        TugRope t = Check.made(GOOD);
        check.is("force(NONE)", t.force(-1), -1);
        check.is("force(0) of none", t.force(0), -2);
        Check.tellRule(t, "pull 3");
        Check.tellRule(t, "pull 0");
        check.is("force(1)", t.force(1), -1);
        check.is("force(0)", t.force(0), 1);
        check.is("force(2)", t.force(2), -2);
        check.is("force(-2)", t.force(-2), -2);
        check.is("in force", t.count(4), 0);
        check.is("heave by rule 0", t.heave(), 103);
        check.is("force(1)", t.force(1), 0);
        check.is("heave by rule 1", t.heave(), 103);
        check.is("force(NONE)", t.force(-1), 1);
        check.is("in force", t.count(4), -1);
        check.is("acts", t.count(11), 2);
    }

    private static void pullers(TugRope t, int what, int... due) {
        for (int who = 0; who < due.length; who++) {
            check.is("puller(" + who + ", " + what + ")", t.puller(who, what), due[who]);
        }
    }

    private static void heavesWithoutRule() {
        TugRope t = Check.made(GOOD);
        // 34 against 28: a quarter of 6 is 1
        check.is("heave 1", t.heave(), 102);
        check.is("ribbon", t.ribbon(), 102);
        pullers(t, 2, 4, 2, 7, 3);
        pullers(t, 6, 2, 2, 2, 2);
        check.is("heave 2", t.heave(), 103);
        pullers(t, 2, 2, 0, 5, 1);
        // 9 against 28: a quarter of -19 is -4
        check.is("heave 3", t.heave(), 99);
        pullers(t, 2, 0, 2, 3, 0);
        pullers(t, 6, 6, 4, 6, 5);
        check.is("heave 4", t.heave(), 101);
        pullers(t, 2, 2, 0, 1, 2);
        pullers(t, 6, 6, 6, 8, 5);
        check.is("HEAVE", t.count(5), 4);
        check.is("all worked", t.count(9), 25);
        check.is("all stand", t.count(7), 15);
        check.is("not over", t.count(8), 0);
        check.is("ribbon without a rope", new TugRope().ribbon(), -1);
        check.is("heave without a rope", new TugRope().heave(), -1);
        TugRope nobody = Check.made("rope 4 9");
        check.is("heave of nobody", nobody.heave(), 100);
        check.is("HEAVE of nobody", nobody.count(5), 1);
    }

    private static void slipping() {
        // quarter 2 and MUD 9 less 5 is 6: BOOTS 5 slip, BOOTS 6 do not
        TugRope t = Check.made("rope 60 9;puller 1 4 60 0;puller 0 1 0 6;puller 0 1 0 5;puller 0 1 0 0");
        check.is("heave", t.heave(), 102);
        check.is("down", t.count(7), 0b1011);
        check.is("puller down", t.puller(2, 5), 0);
        check.is("puller who stands", t.puller(3, 5), 1);
        TugRope none = Check.made("rope 60 3;puller 1 4 60 0;puller 0 1 0 0");
        none.heave();
        check.is("2 + 3 - 5 is not more than 0", none.count(7), 3);
        TugRope one = Check.made("rope 60 4;puller 1 4 60 0;puller 0 1 0 0");
        one.heave();
        check.is("2 + 4 - 5 is", one.count(7), 1);
        // towards SIDE 0: the first of SIDE 1 slips
        TugRope other = Check.made("rope 60 9;puller 1 1 0 0;puller 0 4 60 0;puller 1 1 0 0");
        check.is("heave", other.heave(), 98);
        check.is("down", other.count(7), 0b110);
        // a quarter of 3 is 0: nobody slips, whatever the MUD
        TugRope still = Check.made("rope 60 9;puller 1 1 60 0;puller 0 1 0 0", "pull 3");
        check.is("heave", still.heave(), 100);
        check.is("nobody down", still.count(7), 3);
    }

    private static void firstDownTheRope() {
        TugRope t = Check.made("rope 60 9;puller 1 4 60 0;puller 0 1 0 0;puller 0 1 0 0");
        t.front(2);
        t.heave();
        check.is("the one in front slips", t.count(7), 0b011);
        t.heave();
        check.is("and again, as all stand again", t.count(7), 0b011);
    }

    private static void matesWhoAreDown() {
        // PULLER 1 slips in HEAVE 0 and is down in HEAVE 1: 2 has no mates then, 1 can't pull
        TugRope t = Check.made("rope 60 9;puller 1 16 60 0;puller 0 4 60 0;puller 0 4 60 9",
            "pull 1 if side = 1 and heave = 0;pull 3 if side = 0 and mates = 0;pull 1 if heave = 2");
        check.is("heave 0", t.heave(), 104);
        check.is("1 is down", t.count(7), 0b101);
        check.is("heave 1", t.heave(), 101);
        pullers(t, 6, 1, 0, 3);
        check.is("0 slips", t.count(7), 0b110);
        check.is("heave 2", t.heave(), 99);
        pullers(t, 6, 1, 1, 4);
    }

    private static void resting() {
        TugRope t = Check.made("rope 60 0;puller 1 4 5 9", "pull 2 if heave < 2");
        t.heave();
        t.heave();
        pullers(t, 2, 1);
        t.heave();
        pullers(t, 2, 3);
        t.heave();
        pullers(t, 2, 5);
        t.heave();
        pullers(t, 2, 5);
        check.is("breath", t.breath(0, 7), 12);
        t.heave();
        pullers(t, 2, 12);
        TugRope odd = Check.made("rope 60 0;puller 1 4 5 9", "pull 1 if heave < 1");
        odd.heave();
        odd.heave();
        pullers(odd, 2, 5);
        // who is down has breath, too
        TugRope down = Check.made("rope 60 9;puller 1 8 9 0;puller 0 1 9 0", "pull 3 if heave = 0");
        down.heave();
        check.is("down", down.count(7), 1);
        pullers(down, 2, 6, 6);
        down.heave();
        pullers(down, 2, 8, 8);
    }

    private static void allAtOnce() {
        // what one does in a HEAVE is not seen by the next one in the same HEAVE
        TugRope t = Check.made("rope 60 0;puller 1 4 60 9;puller 1 4 60 9", "pull 3 if ribbon = 0;pull 1");
        check.is("heave", t.heave(), 106);
        check.is("heave", t.heave(), 108);
    }

    private static void farAway() {
        String eight = "rope 60 0" + ";puller 1 40 60 9".repeat(8);
        TugRope t = Check.made(eight, "pull 3");
        check.is("up to 99", t.heave(), 199);
        TugRope u = Check.made(eight.replace("puller 1", "puller 0"), "pull 3");
        check.is("down to -99", u.heave(), 1);
        // what slips goes by the quarter, not by how far it went
        TugRope v = Check.made("rope 60 0" + ";puller 1 40 60 9".repeat(7) + ";puller 0 1 0 9", "pull 3");
        check.is("up to 99", v.heave(), 199);
        check.is("down", v.count(7), 0x7f);
    }

    private static void overTheLine() {
        TugRope t = Check.made("rope 4 9;puller 1 4 60 0;puller 0 1 60 0;ribbon 3", "pull 2 if side = 1");
        check.is("not over", t.count(8), 0);
        t.heave();
        check.is("not over", t.count(8), 0);
        check.is("over at 4", t.heave(), 104);
        check.is("over", t.count(8), 1);
        check.is("down", t.count(7), 1);
        int worked = t.count(9);
        int wind = t.puller(0, 2);
        check.is("a heave when it is over", t.heave(), 104);
        check.is("still down", t.count(7), 1);
        check.is("nobody works", t.count(9), worked);
        check.is("wind stays", t.puller(0, 2), wind);
        check.is("HEAVE", t.count(5), 3);
        check.is("acts", t.count(11), 3);
        TugRope u = Check.made("rope 4 0;puller 0 8 60 0");
        check.is("over at -4", u.heave(), 96);
        check.is("over", u.count(8), 1);
    }

    private static void workedAtMost() {
        TugRope t = Check.made("rope 60 0;puller 1 1 60 9", "pull 3");
        int calls = 4;
        for (int i = 0; i < 333 && calls < 505; i++) {
            t.heave();
            calls++;
            if (i % 3 == 2) {
                t.breath(0, 9);
                calls++;
            }
        }
        check.is("worked", t.puller(0, 6), 999);
        t.breath(0, 9);
        t.heave();
        check.is("worked at most", t.puller(0, 6), 999);
        check.is("all worked at most", t.count(9), 999);
    }

    /** More than 512 calls on purpose: there is no other way to HEAVE 999. */
    private static void lastHeave() {
        TugRope t = Check.made("rope 60 0;puller 1 1 0 9", "pull 3 if heave > 1000");
        for (int i = 0; i < 999; i++) {
            t.heave();
        }
        check.is("HEAVE", t.count(5), 999);
        check.is("no more by hand", t.heave(), -1);
        check.is("HEAVE", t.count(5), 999);
        check.is("acts", t.count(11), 20);
        t.breath(0, 9);
        check.is("asked ones go on", t.ahead(0, 2, 1), 9);
        check.is("asked ones go on", t.ahead(0, 3, 1), 6);
        check.is("undo", t.undo(), 19);
        check.is("undo", t.undo(), 18);
        check.is("HEAVE", t.count(5), 998);
        check.is("heave", t.heave(), 100);
    }

    private static void sending() {
        TugRope t = Check.made("rope 9 0;puller 0 1 9 0;puller 0 2 9 0;puller 1 3 9 0;puller 0 4 9 0");
        check.is("send 0", t.send(0), 1);
        pullers(t, 0, 1, 0, 1, 0);
        pullers(t, 4, 1, 0, 0, 1);
        check.is("side 0", t.count(6), 0b1010);
        check.is("send 0 back", t.send(0), 0);
        pullers(t, 4, 2, 0, 0, 1);
        check.is("send 2", t.send(2), 0);
        pullers(t, 4, 2, 0, 3, 1);
        check.is("send 4", t.send(4), -1);
        check.is("send -1", t.send(-1), -1);
        check.is("acts", t.count(11), 3);
        check.is("without a rope", new TugRope().send(0), -1);
    }

    private static void fronting() {
        TugRope t = Check.made("rope 9 0;puller 0 1 9 0;puller 0 2 9 0;puller 1 3 9 0;puller 0 4 9 0");
        check.is("front 3", t.front(3), 2);
        pullers(t, 4, 1, 2, 0, 0);
        check.is("front 0", t.front(0), 1);
        pullers(t, 4, 0, 2, 0, 1);
        check.is("front 0 again", t.front(0), -1);
        check.is("front 2, alone", t.front(2), -1);
        check.is("front 4", t.front(4), -1);
        check.is("front -1", t.front(-1), -1);
        check.is("acts", t.count(11), 2);
        check.is("without a rope", new TugRope().front(0), -1);
    }

    private static void breathing() {
        TugRope t = Check.made("rope 9 0;puller 0 1 50 0");
        check.is("1", t.breath(0, 1), 51);
        check.is("9", t.breath(0, 9), 60);
        check.is("at most", t.breath(0, 5), 60);
        check.is("wind", t.puller(0, 2), 60);
        check.is("0", t.breath(0, 0), -1);
        check.is("10", t.breath(0, 10), -1);
        check.is("-1", t.breath(0, -1), -1);
        check.is("nobody", t.breath(1, 5), -1);
        check.is("nobody", t.breath(-1, 5), -1);
        check.is("acts", t.count(11), 3);
        check.is("without a rope", new TugRope().breath(0, 1), -1);
    }

    private static void setting() {
        TugRope t = Check.made("rope 9 0;puller 1 40 9 0");
        check.is("set 108", t.set(108), 100);
        check.is("set 92", t.set(92), 108);
        check.is("ribbon", t.ribbon(), 92);
        check.is("set 91", t.set(91), -1);
        check.is("set 109", t.set(109), -1);
        check.is("the same", t.set(92), -1);
        check.is("far", t.set(Integer.MIN_VALUE), -1);
        check.is("far", t.set(Integer.MAX_VALUE), -1);
        t.heave();
        check.is("over", t.count(8), 1);
        check.is("set back", t.set(100), 112);
        check.is("not over", t.count(8), 0);
        check.is("acts", t.count(11), 4);
        check.is("without a rope", new TugRope().set(101), -1);
        check.is("LINE 1", Check.made("rope 1 0").set(100), -1);
    }

    private static void undoing() {
        TugRope t = Check.made(GOOD);
        check.is("nothing to undo", t.undo(), -1);
        t.heave();
        t.send(1);
        t.front(2);
        t.breath(0, 9);
        t.set(95);
        Check.tellRule(t, "pull 1");
        t.force(0);
        t.seed(9);
        t.note(0, 100);
        check.is("undo set", t.undo(), 4);
        check.is("ribbon", t.ribbon(), 102);
        check.is("undo breath", t.undo(), 3);
        pullers(t, 2, 4, 2, 7, 3);
        check.is("undo front", t.undo(), 2);
        pullers(t, 4, 0, 2, 1, 0);
        check.is("undo send", t.undo(), 1);
        pullers(t, 4, 0, 0, 1, 1);
        pullers(t, 0, 0, 1, 0, 1);
        check.is("undo heave", t.undo(), 0);
        check.is("ribbon", t.ribbon(), 101);
        check.is("HEAVE", t.count(5), 0);
        check.is("worked", t.count(9), 0);
        pullers(t, 2, 6, 4, 9, 5);
        check.is("no more", t.undo(), -1);
        check.is("in force stays", t.count(4), 0);
        check.is("x stays", t.count(12), 9);
        check.is("notes stay", t.count(10), 1);
        for (int i = 1; i <= 25; i++) {
            t.heave();
            check.is("acts", t.count(11), Math.min(i, 20));
        }
        for (int i = 19; i >= 0; i--) {
            check.is("undo", t.undo(), i);
        }
        check.is("no more", t.undo(), -1);
        check.is("HEAVE", t.count(5), 5);
        // who was down is down again
        TugRope u = Check.made("rope 60 9;puller 1 4 60 0;puller 0 1 0 0", "pull 3 if heave = 0");
        u.heave();
        u.heave();
        check.is("all stand", u.count(7), 3);
        u.undo();
        check.is("down again", u.count(7), 1);
        u.undo();
        check.is("all stand", u.count(7), 3);
    }
}
