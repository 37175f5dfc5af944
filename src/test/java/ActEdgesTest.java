/** The edges that the document names of ACTS, a test for each sentence (promises 10 to 14). */
public final class ActEdgesTest {
    private static final Check check = new Check();
    private static final String EIGHT = "rope 9 0" + ";puller 0 1 9 0".repeat(8);

    public static void main(String[] args) {
        sentBehindAllOthers();
        sentToASideOfNobody();
        sentWhoIsDown();
        frontOfWhoIsNot();
        frontOfTheLast();
        breathOneToNine();
        breathSixtyAtMost();
        setFromLineToLine();
        setToAnotherNumber();
        setBackFromOver();
        twentyCanBeUndone();
        undoneRoundTheRing();
        eachActUndone();
        onlyActsAreUndone();
        nothingUndoneBehindARope();
        nothingUndoneBehindAnImage();
        check.close("ActEdgesTest");
    }

    private static void all(TugRope t, int what, int... due) {
        for (int who = 0; who < due.length; who++) {
            check.is("puller(" + who + ", " + what + ")", t.puller(who, what), due[who]);
        }
    }

    private static void sentBehindAllOthers() {
        TugRope t = Check.made("rope 9 0;puller 0 1 9 0;puller 1 1 9 0;puller 0 1 9 0;puller 1 1 9 0;puller 0 1 9 0");
        check.is("the first of SIDE 0", t.send(0), 1);
        all(t, 0, 1, 1, 0, 1, 0);
        all(t, 4, 2, 0, 0, 1, 1);
        check.is("the one between, of SIDE 1", t.send(3), 0);
        all(t, 0, 1, 1, 0, 0, 0);
        all(t, 4, 1, 0, 0, 2, 1);
        check.is("the last of SIDE 0", t.send(3), 1);
        all(t, 4, 1, 0, 0, 2, 1);
        check.is("there and back is behind all", t.send(1), 0);
        check.is("there and back is behind all", t.send(1), 1);
        all(t, 4, 0, 2, 0, 1, 1);
        check.is("the last one", t.send(4), 1);
        check.is("SIDE 0", t.count(6), 0b00100);
        check.is("behind the last", t.send(5), -1);
        check.is("ahead of the first", t.send(-1), -1);
    }

    private static void sentToASideOfNobody() {
        TugRope t = Check.made(EIGHT);
        for (int who = 0; who < 8; who++) {
            check.is("send " + who, t.send(who), 1);
            check.is("behind those who were", t.puller(who, 4), who);
            check.is("the next is the first", t.puller(who + 1, 4), who == 7 ? -1 : 0);
        }
        check.is("nobody is left", t.count(6), 0);
        check.is("one goes back", t.send(7), 0);
        check.is("alone", t.puller(7, 4), 0);
        check.is("without that PULLER", t.send(8), -1);
        check.is("of nobody", Check.made("rope 9 0").send(0), -1);
        check.is("without a ROPE", new TugRope().send(0), -1);
    }

    private static void sentWhoIsDown() {
        TugRope t = States.over();
        check.is("down", t.count(7), 0b101);
        check.is("send", t.send(1), 1);
        check.is("still down", t.count(7), 0b101);
        check.is("WIND as it was", t.puller(1, 2), 9);
    }

    private static void frontOfWhoIsNot() {
        TugRope t = Check.made("rope 9 0;puller 0 1 9 0;puller 1 1 9 0;puller 0 1 9 0;puller 0 1 9 0");
        check.is("who is the first", t.front(0), -1);
        check.is("who is alone", t.front(1), -1);
        check.is("the second", t.front(2), 1);
        all(t, 4, 1, 0, 0, 2);
        check.is("who is now", t.front(2), -1);
        check.is("who was", t.front(0), 1);
        all(t, 4, 0, 0, 1, 2);
        check.is("ACTS", t.count(11), 2);
    }

    private static void frontOfTheLast() {
        TugRope t = Check.made(EIGHT);
        check.is("the last of eight", t.front(7), 7);
        all(t, 4, 1, 2, 3, 4, 5, 6, 7, 0);
        check.is("one between: those behind stay", t.front(3), 4);
        all(t, 4, 2, 3, 4, 0, 5, 6, 7, 1);
        check.is("without that PULLER", t.front(8), -1);
        check.is("without that PULLER", t.front(-1), -1);
        check.is("of nobody", Check.made("rope 9 0").front(0), -1);
        check.is("without a ROPE", new TugRope().front(0), -1);
    }

    private static void breathOneToNine() {
        TugRope t = Check.made("rope 9 0;puller 0 1 0 0;puller 1 1 20 0");
        check.is("0", t.breath(0, 0), -1);
        check.is("1", t.breath(0, 1), 1);
        check.is("9", t.breath(0, 9), 10);
        check.is("10", t.breath(0, 10), -1);
        check.is("-1", t.breath(0, -1), -1);
        check.is("the other one", t.breath(1, 9), 29);
        check.is("without that PULLER", t.breath(2, 1), -1);
        check.is("without that PULLER", t.breath(-1, 1), -1);
        all(t, 2, 10, 29);
        check.is("ACTS", t.count(11), 3);
        check.is("without a ROPE", new TugRope().breath(0, 1), -1);
    }

    private static void breathSixtyAtMost() {
        TugRope t = Check.made("rope 9 0;puller 0 1 50 0;puller 1 1 51 0;puller 1 1 52 0;puller 1 1 59 0;puller 0 1 60 0");
        check.is("50 and 9", t.breath(0, 9), 59);
        check.is("51 and 9", t.breath(1, 9), 60);
        check.is("52 and 9", t.breath(2, 9), 60);
        check.is("59 and 1", t.breath(3, 1), 60);
        check.is("60 and 1", t.breath(4, 1), 60);
        all(t, 2, 59, 60, 60, 60, 60);
        check.is("each is an ACT", t.count(11), 5);
        check.is("more than was told can be had", Check.made("rope 9 0;puller 0 1 0 0").breath(0, 9), 9);
    }

    private static void setFromLineToLine() {
        for (int line : new int[] {2, 9, 60}) {
            TugRope t = Check.made("rope " + line + " 0");
            check.is("1 - LINE", t.set(101 - line), 100);
            check.is("LINE - 1", t.set(99 + line), 101 - line);
            check.is("LINE", t.set(100 + line), -1);
            check.is("- LINE", t.set(100 - line), -1);
            check.is("nothing happens", t.ribbon(), 99 + line);
            check.is("not OVER", t.count(8), 0);
            check.is("back to 0", t.set(100), 99 + line);
            check.is("ACTS", t.count(11), 3);
        }
    }

    private static void setToAnotherNumber() {
        TugRope t = Check.made("rope 9 0;ribbon 0");
        check.is("the same", t.set(92), -1);
        check.is("no ACT", t.count(11), 0);
        check.is("the next", t.set(93), 92);
        check.is("the same", t.set(93), -1);
        check.is("and back", t.set(92), 93);
        TugRope one = Check.made("rope 1 0;puller 1 4 9 9");
        check.is("LINE 1: there is 0 alone", one.set(100), -1);
        check.is("LINE 1", one.set(99), -1);
        check.is("LINE 1", one.set(101), -1);
        one.heave();
        check.is("OVER, and back to 0", one.set(100), 102);
        check.is("not OVER then", one.count(8), 0);
        check.is("without a ROPE", new TugRope().set(100), -1);
        check.is("without a ROPE", new TugRope().set(101), -1);
    }

    private static void setBackFromOver() {
        TugRope t = States.over();
        check.is("where it is, beyond the LINE", t.set(108), -1);
        check.is("at the LINE", t.set(104), -1);
        check.is("still OVER", t.count(8), 1);
        check.is("back", t.set(103), 108);
        check.is("not OVER", t.count(8), 0);
        check.is("who is down stays so", t.count(7), 0b101);
        check.is("it goes on: 2 of 16, 103 and 8", t.heave(), 111);
        check.is("undone", t.undo(), 3);
        check.is("undone", t.undo(), 2);
        check.is("OVER again", t.count(8), 1);
    }

    private static void twentyCanBeUndone() {
        TugRope t = Check.made("rope 60 0;puller 1 4 60 9", "pull 1");
        check.is("none yet", t.undo(), -1);
        for (int i = 1; i <= 19; i++) {
            t.heave();
        }
        check.is("19 can be", t.count(11), 19);
        t.heave();
        check.is("20 can be", t.count(11), 20);
        t.heave();
        check.is("of 21 the last 20", t.count(11), 20);
        for (int i = 19; i >= 0; i--) {
            check.is("how many more", t.undo(), i);
            check.is("the last first", t.ribbon(), 101 + i);
            check.is("how many more", t.count(11), i);
        }
        check.is("not the first of 21", t.undo(), -1);
        check.is("nothing happens", t.ribbon(), 101);
        check.is("nothing happens", t.count(5), 1);
    }

    private static void undoneRoundTheRing() {
        TugRope t = Check.made("rope 60 0;puller 1 4 60 9", "pull 1 if heave % 2 = 0");
        // 13 more and 7 back, again and again: what is undone is always the last that was done
        int[] was = new int[80];
        int at = 0;
        was[0] = 100;
        for (int round = 0; round < 5; round++) {
            for (int i = 0; i < 13; i++) {
                was[++at] = t.heave();
            }
            for (int i = 0; i < 7; i++) {
                at--;
                check.is("round " + round, t.undo(), Math.min(20, round * 6 + 13) - 1 - i);
                check.is("ribbon", t.ribbon(), was[at]);
                check.is("HEAVE", t.count(5), at);
            }
        }
        for (int left = t.count(11); left > 0; left--) {
            at--;
            check.is("to the end", t.undo(), left - 1);
            check.is("ribbon", t.ribbon(), was[at]);
        }
        check.is("none more", t.undo(), -1);
    }

    private static void eachActUndone() {
        TugRope t = Check.made("rope 60 9;puller 1 16 60 0;puller 0 4 60 0;puller 0 4 60 9");
        t.heave();
        check.is("down", t.count(7), 0b101);
        t.heave();
        t.send(2);
        t.front(2);
        t.breath(1, 1);
        t.set(77);
        check.is("ACTS", t.count(11), 6);
        check.is("SET", t.undo(), 5);
        check.is("ribbon", t.ribbon(), 110);
        check.is("BREATH", t.undo(), 4);
        all(t, 2, 56, 60, 56);
        check.is("FRONT", t.undo(), 3);
        all(t, 4, 0, 0, 1);
        check.is("SEND", t.undo(), 2);
        all(t, 0, 1, 0, 0);
        all(t, 4, 0, 0, 1);
        check.is("HEAVE", t.undo(), 1);
        check.is("one was down", t.count(7), 0b101);
        check.is("ribbon", t.ribbon(), 104);
        all(t, 6, 2, 2, 2);
        all(t, 2, 58, 58, 58);
        check.is("HEAVE", t.undo(), 0);
        check.is("all stand", t.count(7), 0b111);
        all(t, 6, 0, 0, 0);
        all(t, 2, 60, 60, 60);
        check.is("ribbon", t.ribbon(), 100);
        check.is("none more", t.undo(), -1);
    }

    /** What is no ACT leaves how many can be UNDONE, and stays when ACTS are. */
    private static void onlyActsAreUndone() {
        TugRope t = States.busy();
        check.is("ACTS", t.count(11), 6);
        t.force(0);
        t.note(5, 5);
        t.seed(7);
        t.image(1);
        t.end(0);
        Check.tellRule(t, "pull 0");
        check.is("ACTS", t.count(11), 6);
        for (int i = 5; i >= 0; i--) {
            check.is("undo", t.undo(), i);
        }
        check.is("the RULE IN FORCE stays", t.count(4), 0);
        check.is("NOTES stay", t.count(10), 3);
        check.is("x stays", t.count(12), 7);
        check.is("RULES stay", t.count(3), 3);
        check.is("the IMAGE stays", t.back(1), 2);
    }

    private static void nothingUndoneBehindARope() {
        TugRope t = States.busy();
        check.is("rope", t.rope(), 2);
        check.is("ACTS", t.count(11), 0);
        check.is("undo", t.undo(), -1);
        t.heave();
        check.is("ACTS", t.count(11), 1);
        check.is("undo", t.undo(), 0);
        check.is("ribbon of the new one", t.ribbon(), 98);
        check.is("none more", t.undo(), -1);
        TugRope faulty = States.busy();
        Check.tellRope(faulty, "rope 0");
        check.is("behind a FAULT all can be", faulty.undo(), 5);
    }

    private static void nothingUndoneBehindAnImage() {
        TugRope t = States.busy();
        check.is("back", t.back(2), 2);
        check.is("ACTS", t.count(11), 0);
        check.is("undo", t.undo(), -1);
        t.breath(0, 1);
        check.is("undo", t.undo(), 0);
        check.is("none more", t.undo(), -1);
        TugRope refused = States.busy();
        check.is("never made", refused.back(3), -1);
        check.is("all can be", refused.undo(), 5);
    }
}
