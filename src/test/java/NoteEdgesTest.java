/** The edges that the document names of NOTES and what they tell, a test for each sentence (promises 25, 26, 30 to 32). */
public final class NoteEdgesTest {
    private static final Check check = new Check();
    private static final String ONE = "rope 60 0;puller 1 4 60 9";

    public static void main(String[] args) {
        tenNotes();
        notesOfNoneToSixty();
        notesOfRibbons();
        noneThen();
        notesOfNoRope();
        strengthsOfOneToForty();
        strengthsOfNone();
        strengthsOfWhom();
        windsOfNoneToSixty();
        windsOfNone();
        windsOfWhom();
        asTheTextTold();
        mudAndBootsAsTold();
        ruledOfNoneToSeven();
        ruledNoneAheadOfNought();
        ruledNoSuch();
        lookNoneToSixty();
        lookOfSeveralTheLeast();
        lookOfOne();
        lookOfNoRule();
        lookOfOthers();
        check.close("NoteEdgesTest");
    }

    private static void tenNotes() {
        TugRope t = Check.made(ONE);
        for (int i = 1; i <= 10; i++) {
            check.is("how many", t.note(i, 100), i);
        }
        check.is("there are 10", t.note(0, 100), -2);
        check.is("nothing happens", t.count(10), 10);
        check.is("none then", t.note(-1, 0), 0);
        check.is("the first again", t.note(0, 100), 1);
        // all ten count: the tenth alone is not so
        TugRope all = Check.made(ONE, "pull 0");
        for (int i = 0; i < 9; i++) {
            all.note(i, 100);
        }
        check.is("nine are so", all.strengths(0, 0), 40);
        all.note(9, 101);
        check.is("the tenth is not", all.strengths(0, 0), 0);
        check.is("the tenth is not", all.ruled(0), 0);
        // the first one counts among ten, and one told twice is as once
        TugRope first = Check.made(ONE, "pull 0");
        first.note(0, 101);
        for (int i = 0; i < 9; i++) {
            first.note(1, 100);
        }
        check.is("the first is not so", first.ruled(0), 0);
    }

    private static void notesOfNoneToSixty() {
        TugRope t = Check.made(ONE);
        check.is("0", t.note(0, 100), 1);
        check.is("60", t.note(60, 100), 2);
        check.is("61", t.note(61, 100), -2);
        check.is("-2", t.note(-2, 100), -2);
        check.is("count", t.count(10), 2);
        for (int n : new int[] {0, 1, 59, 60}) {
            TugRope at = Check.made(ONE, "pull 1 if heave = " + n, "pull 1 if heave = " + (n + 1));
            at.note(n, 101);
            check.is("behind HEAVE " + n, at.ruled(0), 1);
            check.is("behind HEAVE " + n, at.ruled(1), 0);
            if (n > 0) {
                at.note(n - 1, 100);
                check.is("and not behind the one ahead", at.ruled(0), 1);
            }
        }
    }

    private static void notesOfRibbons() {
        TugRope t = Check.made(ONE);
        check.is("0", t.note(0, 0), 1);
        check.is("200", t.note(0, 200), 2);
        check.is("201", t.note(0, 201), -2);
        check.is("-1", t.note(0, -1), -2);
        check.is("count", t.count(10), 2);
        // as far as the RIBBON goes, and one farther
        String most = "rope 60 0" + ";puller 1 40 60 9".repeat(4) + ";ribbon 118";
        TugRope farthest = Check.made(most, "pull 1", "pull 3");
        farthest.note(0, 199);
        check.is("99", farthest.ruled(0), 3);
        farthest.note(-1, 0);
        farthest.note(0, 200);
        check.is("100", farthest.ruled(0), 0);
        TugRope least = Check.made(most.replace("r 1", "r 0").replace("n 118", "n 0"), "pull 1", "pull 3");
        least.note(0, 1);
        check.is("-99", least.ruled(0), 3);
        least.note(-1, 0);
        least.note(0, 0);
        check.is("-100", least.ruled(0), 0);
    }

    private static void noneThen() {
        TugRope t = States.full();
        check.is("10", t.count(10), 10);
        check.is("none then, of 10", t.note(-1, 201), 0);
        check.is("none", t.count(10), 0);
        check.is("none then, of none", t.note(-1, -1), 0);
        check.is("all are so", t.ruled(0), 7);
        check.is("ACTS stay", t.count(11), 20);
        check.is("without a ROPE", new TugRope().note(-1, 100), 0);
    }

    private static void notesOfNoRope() {
        TugRope t = new TugRope();
        check.is("without a ROPE", t.note(0, 100), -2);
        check.is("nothing happens", t.count(10), 0);
        Check.tellRope(t, ONE);
        check.is("with one", t.note(0, 100), 1);
        Check.tellRope(t, ONE);
        check.is("of a new one there are none", t.count(10), 0);
        check.is("nobody there", Check.made("rope 1 0").note(0, 100), 1);
    }

    private static void strengths(TugRope t, int who, int many, int least) {
        check.is("strengths, how many", t.strengths(who, 0), many);
        check.is("strengths, the least", t.strengths(who, 1), least);
    }

    private static void strengthsOfOneToForty() {
        TugRope t = Check.made(ONE, "pull 3");
        strengths(t, 0, 40, 1);
        t.note(0, 130);
        strengths(t, 0, 1, 40);
        t.note(-1, 0);
        t.note(0, 100);
        strengths(t, 0, 1, 1);
        t.note(-1, 0);
        t.note(0, 101);
        strengths(t, 0, 1, 2);
        t.note(-1, 0);
        t.note(0, 129);
        strengths(t, 0, 1, 39);
        t.note(-1, 0);
        // by 1 each: a quarter of 36 to 39 is 9, of 40 is 10
        TugRope one = Check.made(ONE, "pull 1");
        one.note(0, 109);
        strengths(one, 0, 4, 36);
        one.note(-1, 0);
        one.note(0, 110);
        strengths(one, 0, 1, 40);
        one.note(-1, 0);
        one.note(0, 100);
        strengths(one, 0, 3, 1);
    }

    private static void strengthsOfNone() {
        TugRope t = Check.made(ONE, "pull 3");
        t.note(0, 131);
        strengths(t, 0, 0, -2);
        t.note(-1, 0);
        t.note(0, 99);
        strengths(t, 0, 0, -2);
        t.note(-1, 0);
        t.note(0, 103);
        t.note(0, 104);
        strengths(t, 0, 0, -2);
    }

    private static void strengthsOfWhom() {
        TugRope t = Check.made(States.FOUR);
        strengths(t, 3, 40, 1);
        strengths(t, 4, -1, -1);
        strengths(t, -1, -1, -1);
        check.is("others", t.strengths(0, 2), -1);
        check.is("others", t.strengths(0, -1), -1);
        strengths(new TugRope(), 0, -1, -1);
        strengths(Check.made("rope 1 0"), 0, -1, -1);
    }

    private static void winds(TugRope t, int who, int many, int least) {
        check.is("winds, how many", t.winds(who, 0), many);
        check.is("winds, the least", t.winds(who, 1), least);
    }

    private static void windsOfNoneToSixty() {
        TugRope t = Check.made(ONE, "pull 1");
        winds(t, 0, 61, 0);
        t.note(0, 100);
        winds(t, 0, 1, 0);
        t.note(-1, 0);
        t.note(0, 101);
        winds(t, 0, 60, 1);
        TugRope most = Check.made("rope 60 0;puller 1 4 9 9", "pull 1 if wind = 60;pull 2 if wind > 60");
        most.note(0, 101);
        winds(most, 0, 1, 60);
        most.note(-1, 0);
        most.note(0, 100);
        winds(most, 0, 60, 0);
        // 59 HEAVES of 1 and then none, or one more: behind HEAVE 59 it is 60
        TugRope long60 = Check.made("rope 60 0;puller 1 4 9 9", "pull 1");
        long60.note(59, 160);
        winds(long60, 0, 1, 60);
        long60.note(-1, 0);
        long60.note(58, 159);
        winds(long60, 0, 2, 59);
    }

    private static void windsOfNone() {
        TugRope t = Check.made(ONE, "pull 1");
        t.note(0, 102);
        winds(t, 0, 0, -2);
        t.note(-1, 0);
        t.note(0, 100);
        t.note(0, 101);
        winds(t, 0, 0, -2);
        TugRope never = Check.made(ONE, "pull 1 if wind > 60");
        never.note(0, 101);
        winds(never, 0, 0, -2);
    }

    private static void windsOfWhom() {
        TugRope t = Check.made(States.FOUR);
        winds(t, 3, 61, 0);
        winds(t, 4, -1, -1);
        winds(t, -1, -1, -1);
        check.is("others", t.winds(0, 2), -1);
        check.is("others", t.winds(0, -1), -1);
        winds(new TugRope(), 0, -1, -1);
        winds(Check.made("rope 1 0"), 0, -1, -1);
    }

    /** From the begin on, all as the text told it: what ACTS have done since is not so. */
    private static void asTheTextTold() {
        TugRope t = Check.made("rope 60 0;puller 1 4 2 9;puller 0 4 2 9;ribbon 64", "pull 1");
        t.note(0, 105);
        t.note(1, 105);
        t.heave();
        t.heave();
        t.send(0);
        t.breath(1, 9);
        t.set(41);
        check.is("none and 0", t.ruled(0), 2);
        // s less 4 is -3 to 3
        strengths(t, 0, 7, 1);
        winds(t, 0, 59, 2);
        check.is("look", t.look(0), 0);
        check.is("look", t.look(1), 2);
        // by the RULE IN FORCE, which is none then
        t.force(-1);
        // by 2 each: twice s less 8 is -2 to 2
        strengths(t, 0, 3, 3);
        check.is("the text's STRONG stays", t.puller(0, 1), 4);
        check.is("by which RULE it goes stays", t.count(4), -1);
    }

    /** Who slips in HEAVE 0 does not pull in HEAVE 1: that goes by MUD and BOOTS, which are as told, too. */
    private static void mudAndBootsAsTold() {
        // by 8 of STRONG, 2: PULLER 1 slips if BOOTS are fewer than 2 and MUD less 5, then does not hold 4 against 8
        String rule = "pull 1 if side = 1;pull 1 if heave = 1";
        int[][] mudBoots = {{9, 0}, {9, 9}, {0, 0}};
        for (int[] one : mudBoots) {
            boolean slips = one[1] < 2 + one[0] - 5;
            TugRope t = Check.made("rope 60 " + one[0] + ";puller 1 8 60 9;puller 0 4 60 " + one[1], rule);
            t.note(0, 102);
            t.note(1, slips ? 104 : 103);
            // s 8 to 11 go 2, and then 2 again without the other one, 1 with it: (s - 4) / 4
            strengths(t, 0, 4, 8);
            strengths(t, 1, slips ? 40 : 4, 1);
            winds(t, 0, 59, 2);
            winds(t, 1, slips ? 61 : 60, slips ? 0 : 1);
        }
    }

    private static void ruledOfNoneToSeven() {
        TugRope t = Check.made("rope 60 0;puller 1 4 60 9");
        check.is("none alone", t.ruled(0), 1);
        check.is("none", t.ruled(1), -1);
        for (int i = 1; i <= 6; i++) {
            Check.tellRule(t, "pull " + (i == 6 ? 3 : 1));
            check.is("none and " + i, t.ruled(0), i + 1);
        }
        t.note(0, 103);
        check.is("the last alone", t.ruled(0), 1);
        check.is("the last alone", t.ruled(1), 5);
    }

    private static void ruledNoneAheadOfNought() {
        TugRope t = Check.made(ONE, "pull 2", "pull 1", "pull 2");
        t.note(0, 102);
        check.is("none, 0 and 2", t.ruled(0), 3);
        check.is("none ahead of 0", t.ruled(1), -1);
        t.note(-1, 0);
        t.note(0, 101);
        check.is("1", t.ruled(0), 1);
        check.is("1", t.ruled(1), 1);
        TugRope nought = Check.made(ONE, "pull 1", "pull 2", "pull 1");
        nought.note(0, 101);
        check.is("0 and 2", nought.ruled(0), 2);
        check.is("0, which is not none", nought.ruled(1), 0);
    }

    private static void ruledNoSuch() {
        TugRope t = Check.made(ONE, "pull 1");
        t.note(0, 103);
        check.is("how many", t.ruled(0), 0);
        check.is("there is none such", t.ruled(1), -2);
        check.is("others", t.ruled(2), -3);
        check.is("others", t.ruled(-1), -3);
        check.is("without a ROPE", new TugRope().ruled(0), -3);
        check.is("without a ROPE", new TugRope().ruled(1), -3);
        check.is("nobody there", Check.made("rope 1 0", "pull 1").ruled(0), 2);
    }

    private static void look(String when, TugRope t, int heave, int many) {
        check.is("look " + when, t.look(0), heave);
        check.is("how many " + when, t.look(1), many);
    }

    /** RULES under which one rests in HEAVE 0, with a NOTE of that: none, by which one pulls 2, is not so then. */
    private static TugRope resting(String... rules) {
        TugRope t = Check.made(ONE, rules);
        t.note(0, 100);
        return t;
    }

    private static void lookNoneToSixty() {
        look("HEAVE 0", Check.made(ONE, "pull 1"), 0, 1);
        look("HEAVE 1", resting("pull 0", "pull 1 if heave = 1"), 1, 1);
        look("HEAVE 59", resting("pull 0", "pull 1 if heave = 59"), 59, 1);
        look("HEAVE 60", resting("pull 0", "pull 1 if heave = 60"), 60, 1);
        look("HEAVE 61 is not of these", resting("pull 0", "pull 1 if heave = 61"), 0, 2);
    }

    private static void lookOfSeveralTheLeast() {
        look("from HEAVE 7 on", resting("pull 0", "pull 1 if heave = 7"), 7, 1);
        look("HEAVE 7 as well as 9", resting("pull 0", "pull 1 if heave = 7", "pull 1 if heave = 9"), 7, 2);
        look("8, but 9 parts better", resting("pull 0", "pull 1 if heave = 8", "pull 1 if heave = 8 or heave = 9"), 9, 1);
        look("none parts: the first", Check.made(ONE, "pull 2", "pull 2"), 0, 3);
        look("one is apart at 0, two at 1", Check.made(ONE, "pull 2", "pull 2 if heave = 0", "pull 3"), 1, 2);
        TugRope seven = Check.made(ONE, "pull 0", "pull 1", "pull 3", "pull heave", "pull heave + 1", "pull 2 - heave");
        // behind HEAVE 0: 2, 0, 1, 3, 0, 1, 2; 1: 4, 0, 2, 6, 1, 3, 3; 2: 6, 0, 3, 9, 3, 6, 3; 3: 8, 0, 4, 12, 6, 9, 3
        look("all seven part behind 3", seven, 3, 1);
        seven.note(0, 100);
        look("0 and 3 part behind 1", seven, 1, 1);
    }

    private static void lookOfOne() {
        look("none alone", Check.made(ONE), 0, 1);
        TugRope t = Check.made(ONE, "pull 1", "pull 3");
        t.note(0, 103);
        look("one alone", t, 0, 1);
        look("nobody there", Check.made("rope 1 0", "pull 1"), 0, 2);
    }

    private static void lookOfNoRule() {
        TugRope t = Check.made(ONE, "pull 1");
        t.note(0, 103);
        look("none is so", t, -2, -2);
        check.is("others are NONE, too", t.look(2), -1);
        t.note(-1, 0);
        look("all are so again", t, 0, 1);
    }

    private static void lookOfOthers() {
        TugRope t = Check.made(ONE);
        check.is("others", t.look(2), -1);
        check.is("others", t.look(-1), -1);
        look("without a ROPE", new TugRope(), -1, -1);
    }
}
