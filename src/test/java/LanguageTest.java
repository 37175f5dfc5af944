/** Promises 4 and 5: rope and rule, what they read and the FAULTS they find. */
public final class LanguageTest {
    private static final Check check = new Check();
    private static final String GOOD = "rope 9 2;puller 0 10 6 3;puller 1 8 4 1;puller 0 4 9 9;puller 1 9 5 2;ribbon 9";

    public static void main(String[] args) {
        ropesThatAreGood();
        faultsOfRopes();
        faultLeavesAll();
        newRopeForgets();
        rulesThatAreGood();
        faultsOfRules();
        tooDeep();
        tooMany();
        sixRules();
        meanings();
        wordsOfAPuller();
        fullTapes();
        check.close("LanguageTest");
    }

    private static void rope(String text, int due) {
        TugRope t = new TugRope();
        check.is("rope " + text, Check.tellRope(t, text), due);
    }

    private static void ropeFault(String text, int place, int kind) {
        rope(text, Check.fault(place, kind));
    }

    private static void rule(String text, int due) {
        TugRope t = new TugRope();
        check.is("rule " + text, Check.tellRule(t, text), due);
    }

    private static void ruleFault(String text, int place, int kind) {
        rule(text, Check.fault(place, kind));
    }

    private static void ropesThatAreGood() {
        TugRope t = Check.made(GOOD);
        int[][] due = {{0, 10, 6, 3, 0, 1, 0}, {1, 8, 4, 1, 0, 1, 0}, {0, 4, 9, 9, 1, 1, 0}, {1, 9, 5, 2, 1, 1, 0}};
        for (int who = 0; who < 4; who++) {
            for (int what = 0; what < 7; what++) {
                check.is("puller " + who + " " + what, t.puller(who, what), due[who][what]);
            }
            check.is("puller what 7", t.puller(who, 7), -1);
            check.is("puller what -1", t.puller(who, -1), -1);
        }
        check.is("puller 4", t.puller(4, 0), -1);
        check.is("puller -1", t.puller(-1, 0), -1);
        int[] counts = {9, 2, 4, 0, -1, 0, 5, 15, 0, 0, 0, 0, 0, 0, -1};
        for (int what = 0; what < counts.length; what++) {
            check.is("count " + what, t.count(what), counts[what]);
        }
        check.is("count -1", t.count(-1), -1);
        check.is("ribbon told", t.ribbon(), 101);
        check.is("ribbon not told", Check.made("rope 9 2").ribbon(), 100);
        check.is("ribbon 0", Check.made("rope 9 2;ribbon 0").ribbon(), 92);
        check.is("ribbon 16", Check.made("rope 9 2;ribbon 16").ribbon(), 108);
        rope("rope 1 0", 0);
        rope("rope60 9", 0);
        rope("  rope   00001   9  ;   ribbon 00000  ", 0);
        rope("rope 1 0;ribbon 0;puller0 40 60 9;puller 1 1 0 0", 2);
        rope("rope 1 0" + ";puller 1 1 0 0".repeat(8), 8);
        check.is("eight stand", Check.made("rope 1 0" + ";puller 1 1 0 0".repeat(8)).count(7), 255);
    }

    private static void faultsOfRopes() {
        ropeFault("", 0, 0);
        ropeFault("   ", 3, 0);
        ropeFault("rope", 4, 0);
        ropeFault("rope  ", 6, 0);
        ropeFault("rope 7", 6, 0);
        ropeFault("rope 0 0", 5, 1);
        ropeFault("rope 61 0", 5, 1);
        ropeFault("rope 1 10", 7, 1);
        ropeFault("rope 123456 0", 5, 1);
        ropeFault("rope 000001 0", 5, 1);
        ropeFault("puller 0 1 0 0", 0, 4);
        ropeFault(" ribbon 0", 1, 4);
        ropeFault("pull 1", 0, 0);
        ropeFault("rope 1 0;rope 1 0", 9, 4);
        ropeFault("rope 1 0; rope", 10, 4);
        ropeFault("rope 1 0;puller 2 1 0 0", 16, 1);
        ropeFault("rope 1 0;puller 0 0 0 0", 18, 1);
        ropeFault("rope 1 0;puller 0 41 0 0", 18, 1);
        ropeFault("rope 1 0;puller 0 1 61 0", 20, 1);
        ropeFault("rope 1 0;puller 0 1 0 10", 22, 1);
        ropeFault("rope 1 0;puller 0 1 0", 21, 0);
        ropeFault("rope 2 0;ribbon 3", 16, 1);
        ropeFault("rope 2 0;ribbon 1;ribbon 1", 18, 4);
        ropeFault("rope 1 0;ribbon", 15, 0);
        ropeFault("ropes 1 0", 0, 0);
        ropeFault("Rope 1 0", 0, 0);
        ropeFault("rope 1 0;", 9, 0);
        ropeFault("rope 1 0;;", 9, 0);
        ropeFault("rope 1 0 1", 9, 0);
        ropeFault("rope 1 0 1234567", 9, 0);
        ropeFault("rope 1,0", 6, 0);
        ropeFault("rope -1 0", 5, 0);
        ropeFault("rope\t1 0", 4, 0);
        ropeFault("rope 1 0;side 0", 9, 0);
        ropeFault("rope 1 0" + ";puller 1 1 0 0".repeat(9), 8 + 8 * 15 + 1, 4);
        ropeFault("rope 1 0" + ";puller 1 1 0 0".repeat(8) + ";pullers", 8 + 8 * 15 + 1, 0);
        ropeFault("rope 1 0\u00e9", 8, 0);
    }

    private static void faultLeavesAll() {
        TugRope t = Check.made(GOOD);
        t.heave();
        t.note(3, 99);
        t.seed(77);
        check.is("fault", Check.tellRope(t, "rope 5 5;puller 0 1 2 3;ribbon 99"), Check.fault(31, 1));
        check.is("tape", t.count(13), 0);
        check.is("ribbon", t.ribbon(), 102);
        check.is("line", t.count(0), 9);
        check.is("pullers", t.count(2), 4);
        check.is("strong", t.puller(0, 1), 10);
        check.is("notes", t.count(10), 1);
        check.is("acts", t.count(11), 1);
        check.is("x", t.count(12), 77);
    }

    private static void newRopeForgets() {
        TugRope t = Check.made(GOOD, "pull 3", "pull 1");
        t.force(1);
        t.seed(5);
        t.heave();
        t.note(1, 100);
        check.is("second rope", Check.tellRope(t, "rope 3 1;puller 1 2 3 4;puller 1 5 6 7"), 2);
        check.is("tape", t.count(13), 0);
        check.is("notes", t.count(10), 0);
        check.is("acts", t.count(11), 0);
        check.is("undo", t.undo(), -1);
        check.is("heave", t.count(5), 0);
        check.is("worked", t.count(9), 0);
        check.is("in force", t.count(4), 1);
        check.is("rules", t.count(3), 2);
        check.is("x", t.count(12), 5);
        check.is("ribbon", t.ribbon(), 100);
        check.is("place", t.puller(1, 4), 1);
    }

    private static void rulesThatAreGood() {
        rule("pull 1", 0);
        rule("pull1if1=1", 0);
        rule("  pull  99999 * wind / 0 % 00000 - 3  if not not [ 1 <= 2 or 3>=wind and heave<worked ] ; pull 2 ", 0);
        rule("pull puller+side+strong+wind+boots+place+mates+ribbon+line+worked+heave", 0);
        rule("pull 1;".repeat(11) + "pull 1", 0);
        TugRope t = new TugRope();
        check.is("rule 0", Check.tellRule(t, "pull 1"), 0);
        check.is("tape", t.count(13), 0);
        check.is("rule 1", Check.tellRule(t, "pull 1"), 1);
        check.is("rules", t.count(3), 2);
        check.is("a fault", Check.tellRule(t, "pull 1 or"), Check.fault(7, 0));
        check.is("tape", t.count(13), 0);
        check.is("rules", t.count(3), 2);
    }

    private static void faultsOfRules() {
        ruleFault("", 0, 0);
        ruleFault("pull", 4, 0);
        ruleFault("pull 1 if", 9, 0);
        ruleFault("pulls 1", 0, 0);
        ruleFault("pull x", 5, 0);
        ruleFault("pull 1;", 7, 0);
        ruleFault("pull 1 if wind = 1]", 18, 0);
        ruleFault("pull 5 %", 8, 0);
        ruleFault("pull 5 5", 7, 0);
        ruleFault("pull 5 555555", 7, 0);
        ruleFault("pull - 5", 5, 0);
        ruleFault("pull 5 + * 5", 9, 0);
        ruleFault("pull [5]", 5, 0);
        ruleFault("pull not", 5, 0);
        ruleFault("pull rope", 5, 0);
        ruleFault("pull winds", 5, 0);
        ruleFault("pull 100000", 5, 1);
        ruleFault("pull 1 iff 1=1", 7, 0);
        ruleFault("pull 1 if wind", 14, 0);
        ruleFault("pull 1 if wind < = 1", 17, 0);
        ruleFault("pull 1 if wind =< 1", 16, 0);
        ruleFault("pull 1 if wind == 1", 16, 0);
        ruleFault("pull 1 if wind = 1 = 1", 19, 0);
        ruleFault("pull 1 if wind + 1", 18, 0);
        ruleFault("pull 1 if [wind = 1", 19, 0);
        ruleFault("pull 1 if [wind = 1;pull 1", 19, 0);
        ruleFault("pull 1 if [wind + 1] = 2", 19, 0);
        ruleFault("pull 1 if [wind = 1] + 1 = 2", 21, 0);
        ruleFault("pull 1 if [wind = 1] not 1 = 1", 21, 0);
        ruleFault("pull 1 if wind = 1 and", 22, 0);
        ruleFault("pull 1 if wind = 1 or or", 22, 0);
        ruleFault("pull 1 if wind = 1 if 1 = 1", 19, 0);
        ruleFault("pull 1 if [] = 1", 11, 0);
        ruleFault("pull 1 if not", 13, 0);
        ruleFault("pull 1 if notwind = 1", 10, 0);
        ruleFault("pull 1 if 123456 = 1", 10, 1);
        ruleFault("rope 1 0", 0, 0);
        ruleFault("pull 1;".repeat(12) + "pull 1", 84, 4);
        ruleFault("pull 1;".repeat(12) + "push 1", 84, 0);
        ruleFault("pull 1;".repeat(12), 84, 0);
    }

    private static void tooDeep() {
        rule("pull 1 if " + "[".repeat(10) + "1=1" + "]".repeat(10), 0);
        ruleFault("pull 1 if " + "[".repeat(11) + "1=1" + "]".repeat(11), 20, 2);
        rule("pull 1 if " + "not ".repeat(10) + "1=1", 0);
        ruleFault("pull 1 if " + "not ".repeat(11) + "1=1", 50, 2);
        rule("pull 1 if " + "not[".repeat(5) + "1=1" + "]".repeat(5), 0);
        ruleFault("pull 1 if " + "not[".repeat(5) + "not 1=1" + "]".repeat(5), 30, 2);
        ruleFault("pull 1 if " + "[not ".repeat(5) + "[1=1", 35, 2);
        ruleFault("pull 1 if " + "[".repeat(10) + "1=1 or not", 27, 2);
        rule("pull 1 if " + "not 1=1 and ".repeat(11) + "not [1=1]", 0);
        rule("pull 1 if " + "[1=1] or ".repeat(11) + "[not 1=1]", 0);
        rule("pull 1 if " + "[".repeat(9) + "not 1=1 or not 1=1 and [1=1]" + "]".repeat(9), 0);
    }

    private static void tooMany() {
        rule("pull 1" + "+1".repeat(59), 0);
        ruleFault("pull 1" + "+1".repeat(60), 125, 3);
        ruleFault("pull 1" + "+1".repeat(59) + "+123456", 125, 1);
        ruleFault("pull 1" + "+1".repeat(59) + "+nobody", 125, 0);
        ruleFault("pull 1" + "+1".repeat(59) + "+wind", 125, 3);
        rule("pull 1" + "+1".repeat(56) + " if 1=1", 0);
        ruleFault("pull 1" + "+1".repeat(57) + " if 1=1", 126, 3);
        ruleFault("pull 1" + "+1".repeat(58) + " if 1<=1", 127, 3);
        rule("pull 1;".repeat(9) + "pull 1" + "+1".repeat(50), 0);
        ruleFault("pull 1;".repeat(9) + "pull 1" + "+1".repeat(51), 63 + 5 + 102, 3);
    }

    private static void sixRules() {
        TugRope t = new TugRope();
        for (int i = 0; i < 6; i++) {
            check.is("rule " + i, Check.tellRule(t, "pull " + i), i);
        }
        check.is("seventh", Check.tellRule(t, "pull 1"), -1);
        check.is("its tape", t.count(13), 6);
        check.is("seventh with a fault", Check.tellRule(t, "pulls"), -1);
        check.is("rules", t.count(3), 6);
    }

    /** What the RULE says to one of STRONG 4, as the RIBBON then tells: 0 to 3 by one sign of a SUM. */
    private static int effort(String rule) {
        TugRope t = Check.made("rope 60 0;puller 1 4 60 9", rule);
        return t.heave() - 100;
    }

    private static void means(String rule, int due) {
        check.is(rule, effort(rule), due);
    }

    private static void meanings() {
        means("pull 0", 0);
        means("pull 1", 1);
        means("pull 2", 2);
        means("pull 3", 3);
        means("pull 4", 3);
        means("pull 0-1", 0);
        means("pull 7-2-3", 2);
        means("pull 7-2*3", 1);
        means("pull 2*3-4+1", 3);
        means("pull 12/4/3", 1);
        means("pull 13%5*2-4", 2);
        means("pull 7/2", 3);
        means("pull 2-7/0", 2);
        means("pull 2-7%0", 2);
        means("pull 2+7/0+5%0", 2);
        // -7 / 2 is -3, and its rest -1
        means("pull 4+0*0 if 1=1", 3);
        check.is("towards 0", effortOfNegative("5 + ribbon / 2"), 2);
        check.is("its rest", effortOfNegative("3 + ribbon % 2"), 2);
        // all goes round in 64 bits: (2^16)^4 is 0
        means("pull 65536*65536*65536*65536+1", 1);
        means("pull 1 if 32768*65536*65536*65536 < 0", 1);
        means("pull 1 if 65535*65536*65536*65536 < 0;pull 2", 1);
        means("pull 1 if 1<2", 1);
        means("pull 1 if 2<2;pull 2", 2);
        means("pull 1 if 2<=2;pull 2", 1);
        means("pull 1 if 3<=2;pull 2", 2);
        means("pull 1 if 2=2;pull 2", 1);
        means("pull 1 if 2=1;pull 2", 2);
        means("pull 1 if 2>=2;pull 2", 1);
        means("pull 1 if 1>=2;pull 2", 2);
        means("pull 1 if 2>2;pull 2", 2);
        means("pull 1 if 3>2;pull 2", 1);
        means("pull 1 if 1=2", 0);
        means("pull 1 if 1=2;pull 3 if 1=2;pull 2 if 1=1;pull 3", 2);
        // and binds closer than or, not closer than and
        means("pull 1 if 1=1 or 1=1 and 1=2;pull 2", 1);
        means("pull 1 if [1=1 or 1=1] and 1=2;pull 2", 2);
        means("pull 1 if 1=2 and 1=1 or 1=1;pull 2", 1);
        means("pull 1 if 1=2 and [1=1 or 1=1];pull 2", 2);
        means("pull 1 if not 1=1 or 1=1;pull 2", 1);
        means("pull 1 if not [1=1 or 1=1];pull 2", 2);
        means("pull 1 if not 1=2 and 1=2;pull 2", 2);
        means("pull 1 if not [1=2 and 1=2];pull 2", 1);
        means("pull 1 if not not 1=1;pull 2", 1);
        means("pull 1 if not not not 1=1;pull 2", 2);
        means("pull 1 if 1+1=2*1 and 7-1-1=5;pull 2", 1);
        means("pull 3 if 1=2;".repeat(11) + "pull 2", 2);
        means("pull 3 if 1=2;".repeat(11) + "pull 2 if 2=2", 2);
        means("pull 3 if 1=2;".repeat(11) + "pull 2 if 1=2", 0);
    }

    /** The RIBBON is at -7 of LINE 60 here, for one of SIDE 1; the answer is how far it goes. */
    private static int effortOfNegative(String sum) {
        TugRope t = Check.made("rope 60 0;puller 1 4 60 9;ribbon 52", "pull " + sum);
        return t.heave() - 93;
    }

    /** Whether a FACT holds for PULLER 1 of the good ROPE, in HEAVE 0. */
    private static void holds(TugRope t, int who, String fact) {
        Check.tellRule(t, "pull 1 if puller = " + who + " and " + fact);
        t.force(0);
        t.heave();
        check.is(fact + " of " + who, t.count(9), 1);
        check.is(fact + " of " + who, t.puller(who, 6), 1);
    }

    private static void wordsOfAPuller() {
        holds(Check.made(GOOD), 3, "side = 1 and strong = 9 and wind = 5 and boots = 2 and place = 1 and mates = 1");
        holds(Check.made(GOOD), 3, "ribbon = 1 and line = 9 and worked = 0 and heave = 0");
        holds(Check.made(GOOD), 0, "side = 0 and strong = 10 and wind = 6 and boots = 3 and place = 0 and mates = 1");
        holds(Check.made(GOOD), 0, "ribbon + 1 = 0 and line = 9");
        holds(Check.made("rope 9 0;puller 1 1 1 0"), 0, "mates = 0 and place = 0 and ribbon = 0");
        TugRope t = Check.made(GOOD);
        t.heave();
        t.heave();
        t.front(2);
        Check.tellRule(t, "pull 1 if puller = 0 and place = 1 and worked = 4 and heave = 2 and wind = 2 and ribbon = 0 - 3");
        t.force(0);
        t.heave();
        check.is("later words", t.puller(0, 6), 5);
        check.is("all worked", t.count(9), 17);
    }

    private static void fullTapes() {
        rope("rope 1 0" + " ".repeat(392), 0);
        rope(" ".repeat(392) + "rope 1 0", 0);
        ropeFault(" ".repeat(400), 400, 0);
        ropeFault(";".repeat(400), 0, 0);
        ropeFault("rope 1 0" + " ".repeat(391) + ";", 400, 0);
        ropeFault("z".repeat(400), 0, 0);
        ropeFault("rope 1 0;zebra", 9, 0);
        ropeFault("rope 1 0;puller" + " ".repeat(384) + "1", 400, 0);
        ropeFault("rope " + "1".repeat(395), 5, 1);
        rule("pull 1" + " ".repeat(394), 0);
        ruleFault("pull 1 if " + "[".repeat(390), 20, 2);
        ruleFault("pull 1 if 1" + "<".repeat(389), 12, 0);
    }
}
