/** Promises 25, 26, 30 to 32, 36 and 37: notes and what they tell, images. */
public final class NotesTest {
    private static final Check check = new Check();
    private static final String ONE = "rope 60 0;puller 1 4 60 9";
    private static final String TWO = "rope 60 0;puller 1 4 9 9;puller 0 4 9 9";

    public static void main(String[] args) {
        notes();
        strengths();
        winds();
        fromTheBeginOn();
        ruled();
        looks();
        images();
        imagesWithoutRope();
        withoutRope();
        check.close("NotesTest");
    }

    private static void notes() {
        TugRope t = Check.made(TWO);
        check.is("first", t.note(0, 0), 1);
        check.is("second", t.note(60, 200), 2);
        check.is("n 61", t.note(61, 100), -2);
        check.is("n -2", t.note(-2, 100), -2);
        check.is("ribbon 201", t.note(1, 201), -2);
        check.is("ribbon -1", t.note(1, -1), -2);
        check.is("count", t.count(10), 2);
        for (int i = 3; i <= 10; i++) {
            check.is("note " + i, t.note(1, 100), i);
        }
        check.is("eleventh", t.note(1, 100), -2);
        check.is("count", t.count(10), 10);
        check.is("none then", t.note(-1, 100), 0);
        check.is("count", t.count(10), 0);
        check.is("none then", t.note(-1, -77), 0);
        check.is("no act", t.count(11), 0);
    }

    private static void strengths() {
        TugRope t = Check.made(TWO);
        check.is("all 40", t.strengths(0, 0), 40);
        check.is("least 1", t.strengths(0, 1), 1);
        t.note(0, 103);
        check.is("10 and 11", t.strengths(0, 0), 2);
        check.is("10 and 11", t.strengths(0, 1), 10);
        check.is("none of the other", t.strengths(1, 0), 0);
        check.is("none of the other", t.strengths(1, 1), -2);
        t.note(1, 106);
        check.is("behind HEAVE 1, too", t.strengths(0, 0), 2);
        t.note(0, 100);
        check.is("of the begin no NOTE speaks", t.strengths(0, 0), 0);
        t.note(-1, 0);
        t.note(1, 106);
        check.is("behind HEAVE 1 alone", t.strengths(0, 0), 2);
        check.is("behind HEAVE 1 alone", t.strengths(0, 1), 10);
        t.note(-1, 0);
        t.note(1, 103);
        check.is("3 is no twice a number", t.strengths(0, 0), 0);
        check.is("what 2", t.strengths(0, 2), -1);
        check.is("what -1", t.strengths(0, -1), -1);
        check.is("nobody", t.strengths(2, 0), -1);
        check.is("nobody", t.strengths(-1, 0), -1);
        TugRope last = Check.made(ONE, "pull 1 if heave = 60");
        last.note(60, 103);
        check.is("12 to 15 behind HEAVE 60", last.strengths(0, 0), 4);
        check.is("12 to 15 behind HEAVE 60", last.strengths(0, 1), 12);
        last.note(59, 100);
        check.is("and nothing behind HEAVE 59", last.strengths(0, 0), 4);
        last.note(59, 103);
        check.is("not both", last.strengths(0, 0), 0);
    }

    private static void winds() {
        TugRope t = Check.made(TWO);
        check.is("all 61", t.winds(0, 0), 61);
        check.is("least 0", t.winds(0, 1), 0);
        t.note(0, 99);
        check.is("1 alone", t.winds(0, 0), 1);
        check.is("1 alone", t.winds(0, 1), 1);
        t.note(-1, 0);
        t.note(0, 100);
        check.is("2 to 60", t.winds(0, 0), 59);
        check.is("2 to 60", t.winds(0, 1), 2);
        t.note(1, 98);
        check.is("2 alone", t.winds(0, 0), 1);
        check.is("2 alone", t.winds(0, 1), 2);
        t.note(2, 98);
        check.is("what was told is 2, too: 2 comes back", t.winds(0, 0), 1);
        t.note(2, 150);
        check.is("none", t.winds(0, 0), 0);
        check.is("none", t.winds(0, 1), -2);
        check.is("what 2", t.winds(0, 2), -1);
        check.is("what -1", t.winds(0, -1), -1);
        check.is("nobody", t.winds(2, 0), -1);
        check.is("nobody", t.winds(-1, 0), -1);
        TugRope last = Check.made(ONE, "pull 3 if heave = 60");
        last.note(60, 102);
        check.is("2 alone behind HEAVE 60", last.winds(0, 0), 1);
        check.is("2 alone behind HEAVE 60", last.winds(0, 1), 2);
        last.note(-1, 0);
        last.note(60, 103);
        last.note(59, 100);
        check.is("3 to 60", last.winds(0, 0), 58);
        check.is("3 to 60", last.winds(0, 1), 3);
    }

    private static void fromTheBeginOn() {
        TugRope t = Check.made(TWO, "pull 1");
        t.heave();
        t.send(1);
        t.set(150);
        t.note(0, 103);
        // by the RULE IN FORCE: s - 4 is 12 to 15
        check.is("16 to 19", t.strengths(0, 0), 4);
        check.is("16 to 19", t.strengths(0, 1), 16);
        t.force(-1);
        check.is("10 and 11", t.strengths(0, 1), 10);
        check.is("nothing stays", t.ribbon(), 150);
        check.is("nothing stays", t.puller(0, 1), 4);
        check.is("nothing stays", t.puller(1, 0), 1);
    }

    private static TugRope ruledOne() {
        TugRope t = Check.made(ONE, "pull 3", "pull 2", "pull 0 if heave = 0;pull 2");
        t.force(2);
        return t;
    }

    private static void ruled() {
        TugRope t = ruledOne();
        check.is("all and none", t.ruled(0), 4);
        check.is("none first", t.ruled(1), -1);
        t.note(0, 102);
        check.is("none and 1", t.ruled(0), 2);
        check.is("none and 1", t.ruled(1), -1);
        t.note(-1, 0);
        t.note(0, 103);
        check.is("0", t.ruled(0), 1);
        check.is("0", t.ruled(1), 0);
        t.note(-1, 0);
        t.note(1, 106);
        check.is("0, behind HEAVE 1", t.ruled(0), 1);
        check.is("0, behind HEAVE 1", t.ruled(1), 0);
        t.note(-1, 0);
        t.note(2, 106);
        check.is("none and 1, behind HEAVE 2", t.ruled(0), 2);
        t.note(-1, 0);
        t.note(3, 106);
        check.is("2, behind HEAVE 3", t.ruled(0), 1);
        check.is("2, behind HEAVE 3", t.ruled(1), 2);
        t.note(0, 102);
        check.is("no such", t.ruled(0), 0);
        check.is("no such", t.ruled(1), -2);
        check.is("what 2", t.ruled(2), -3);
        check.is("what -1", t.ruled(-1), -3);
        check.is("none alone", Check.made(TWO).ruled(0), 1);
        ruledAtTheEdges();
    }

    private static void ruledAtTheEdges() {
        TugRope told = Check.made(ONE + ";ribbon 69");
        told.note(0, 112);
        check.is("2 from where it was told to be", told.ruled(0), 1);
        told.note(0, 110);
        check.is("where it was told to be is behind no HEAVE", told.ruled(0), 0);
        TugRope last = Check.made(ONE, "pull 1 if heave = 59", "pull 1 if heave = 60", "pull 1 if heave = 61");
        last.note(60, 101);
        check.is("0 and 1 behind HEAVE 60", last.ruled(0), 2);
        check.is("0 and 1 behind HEAVE 60", last.ruled(1), 0);
        last.note(59, 100);
        check.is("1 alone", last.ruled(0), 1);
        check.is("1 alone", last.ruled(1), 1);
        last.note(-1, 0);
        last.note(60, 100);
        check.is("2 has not pulled yet", last.ruled(0), 1);
        check.is("2 has not pulled yet", last.ruled(1), 2);
        TugRope over = Check.made("rope 30 0;puller 1 40 60 9");
        over.note(1, 140);
        over.note(60, 140);
        check.is("over it stays there", over.ruled(0), 1);
    }

    private static void look(String when, TugRope t, int heave, int many) {
        check.is("look " + when, t.look(0), heave);
        check.is("how many " + when, t.look(1), many);
    }

    private static void looks() {
        TugRope t = ruledOne();
        look("behind HEAVE 0: 2, 3, 2, 0", t, 0, 2);
        t.note(1, 104);
        look("none and 1 never part", t, 0, 2);
        t.note(-1, 0);
        t.note(0, 103);
        look("one alone", t, 0, 1);
        t.note(0, 104);
        look("none is so", t, -2, -2);
        check.is("what 2", t.look(2), -1);
        check.is("what -1", t.look(-1), -1);
        look("behind HEAVE 20", Check.made(ONE, "pull 2 if heave < 20", "pull 2;pull 3"), 20, 2);
        TugRope six = Check.made(ONE, "pull 0", "pull 1", "pull 2", "pull 3", "pull heave", "pull 1+heave");
        look("behind HEAVE 0: 2, 0, 1, 2, 3, 0, 1", six, 0, 2);
        six.note(2, 103);
        check.is("1 and 4, 3 and 3", six.ruled(0), 2);
        look("they part behind HEAVE 0", six, 0, 1);
        looksAtTheEdges();
    }

    /** By none the RIBBON is elsewhere behind HEAVE 0: a NOTE leaves the RULES alone. */
    private static TugRope resting(String... rules) {
        TugRope t = Check.made(ONE, rules);
        t.note(0, 100);
        return t;
    }

    private static void looksAtTheEdges() {
        look("HEAVE 0 of these", Check.made(ONE, "pull 0"), 0, 1);
        look("HEAVE 1", resting("pull 0", "pull 1 if heave = 1"), 1, 1);
        look("HEAVE 5 alone", resting("pull 1 if heave = 5", "pull 1 if heave = 6"), 5, 1);
        look("two part behind 3, all behind 7",
            resting("pull 0", "pull 1 if heave = 3", "pull 1 if heave = 3 or heave = 7"), 7, 1);
        look("HEAVE 59", resting("pull 0", "pull 1 if heave = 59"), 59, 1);
        look("HEAVE 60", resting("pull 0", "pull 1 if heave = 60"), 60, 1);
        look("behind none, HEAVE 61 is not asked", resting("pull 0", "pull 1 if heave = 61"), 0, 2);
        TugRope later = resting("pull 0", "pull 1 if heave = 4");
        later.heave();
        later.heave();
        look("from the begin on, in HEAVE 2 as well", later, 4, 1);
    }

    private static void images() {
        TugRope t = Check.made(TWO, "pull 1", "pull 3");
        t.heave();
        t.note(1, 100);
        t.seed(42);
        check.is("image 0", t.image(0), 1);
        t.force(1);
        t.breath(0, 9);
        t.heave();
        t.set(120);
        t.note(2, 100);
        t.seed(43);
        check.is("image 3", t.image(3), 2);
        check.is("image 4", t.image(4), -1);
        check.is("image -1", t.image(-1), -1);
        Check.tellRule(t, "pull 2");
        Check.tellRope(t, "rope 7 7;puller 0 9 9 9");
        Check.tell(t, "rope");
        check.is("back 0", t.back(0), 1);
        check.is("tape stays", t.count(13), 4);
        check.is("rules stay", t.count(3), 3);
        check.is("line", t.count(0), 60);
        check.is("pullers", t.count(2), 2);
        check.is("in force", t.count(4), 0);
        check.is("HEAVE", t.count(5), 1);
        check.is("wind", t.puller(0, 2), 8);
        check.is("worked", t.count(9), 2);
        check.is("notes", t.count(10), 1);
        check.is("nothing undone", t.undo(), -1);
        check.is("x", t.count(12), 42);
        t.heave();
        t.note(5, 5);
        check.is("back 3", t.back(3), 2);
        check.is("ribbon", t.ribbon(), 120);
        check.is("notes", t.count(10), 2);
        check.is("in force", t.count(4), 1);
        check.is("x", t.count(12), 43);
        check.is("acts", t.count(11), 0);
        check.is("back 0 again", t.back(0), 1);
        check.is("its notes", t.count(10), 1);
        check.is("back 1, never made", t.back(1), -1);
        check.is("back 4", t.back(4), -1);
        check.is("back -1", t.back(-1), -1);
        t.heave();
        check.is("nothing happens", t.back(2), -1);
        check.is("acts stay", t.count(11), 1);
        check.is("image 0 made anew", t.image(0), 2);
        t.heave();
        check.is("back", t.back(0), 2);
    }

    private static void imagesWithoutRope() {
        TugRope t = new TugRope();
        check.is("image", t.image(2), 0);
        Check.tellRope(t, TWO);
        t.heave();
        check.is("back", t.back(2), 0);
        check.is("no rope", t.ribbon(), -1);
        check.is("no pullers", t.count(2), 0);
        check.is("HEAVE", t.count(5), 0);
        check.is("nobody worked", t.count(9), 0);
        check.is("nobody stands", t.count(7), 0);
    }

    private static void withoutRope() {
        TugRope t = new TugRope();
        check.is("note", t.note(0, 100), -2);
        check.is("none noted", t.count(10), 0);
        check.is("no notes", t.note(-1, 0), 0);
        check.is("no notes, whatever the ribbon", t.note(-1, 201), 0);
        check.is("note below NONE", t.note(-2, 100), -2);
        check.is("strengths", t.strengths(0, 0), -1);
        check.is("winds", t.winds(0, 0), -1);
        check.is("ruled", t.ruled(0), -3);
        check.is("look", t.look(0), -1);
        check.is("back", t.back(0), -1);
    }
}
