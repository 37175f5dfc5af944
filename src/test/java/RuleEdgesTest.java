/** The edges that the document names of RULES, a test for each sentence (promises 5 and 6). */
public final class RuleEdgesTest {
    private static final Check check = new Check();

    public static void main(String[] args) {
        ruleOfFourHundredBytes();
        twelveClauses();
        digits();
        wordsGoOn();
        signs();
        tenDeep();
        deepInOneAnotherAlone();
        sixtyTogether();
        sixtyAtTheSign();
        sixtyOfOneRule();
        sixtyOfEachOfSix();
        endOfTheText();
        whatCannotStand();
        firstFaultAlongTheText();
        ofOnePlaceTheLeast();
        eachSignHoldsOrNot();
        byNothing();
        towardsNothing();
        roundInSixtyFourBits();
        noughtToThree();
        noMoreThanWind();
        firstClauseThatHolds();
        withoutRuleTwo();
        wordsAtTheirEdges();
        sixRules();
        tapeIsEmptyThen();
        forceOfWhichThereAre();
        check.close("RuleEdgesTest");
    }

    private static void good(String text) {
        check.is("rule " + text, Check.tellRule(new TugRope(), text), 0);
    }

    private static void fault(String text, int place, int kind) {
        check.is("rule " + text, Check.tellRule(new TugRope(), text), Check.fault(place, kind));
    }

    /** What the RULE says to one of STRONG 4, SIDE 1, WIND 60, as the RIBBON then tells, which was told. */
    private static void says(int ribbon, String rule, int due) {
        TugRope t = Check.made("rope 60 0;puller 1 4 60 9;ribbon " + (ribbon + 59), rule);
        check.is(rule + " is in force", t.count(4), 0);
        check.is(rule + " with the ribbon at " + ribbon, t.heave() - 100 - ribbon, due);
    }

    private static void says(String rule, int due) {
        says(0, rule, due);
    }

    private static void holds(int ribbon, String test) {
        says(ribbon, "pull 1 if " + test + ";pull 2", 1);
    }

    private static void fails(int ribbon, String test) {
        says(ribbon, "pull 1 if " + test + ";pull 2", 2);
    }

    private static void ruleOfFourHundredBytes() {
        good("pull 1" + " ".repeat(394));
        good(" ".repeat(394) + "pull 1");
        says("pull 1" + " ".repeat(391) + "+ 1", 2);
        fault("pull 1" + " ".repeat(393) + "+", 400, 0);
        fault("pull 1" + " ".repeat(393) + "]", 399, 0);
        fault("pull 1 if " + "[".repeat(390), 20, 2);
    }

    private static void twelveClauses() {
        good("pull 1;".repeat(11) + "pull 1");
        good("pull 1 if 1=1;".repeat(11) + "pull 1 if 1=1");
        fault("pull 1;".repeat(12) + "pull 1", 84, 4);
        fault("pull 1;".repeat(12) + "  pull 1", 86, 4);
        fault("pull 1;".repeat(12) + "pull", 84, 4);
        fault("pull 1;".repeat(12) + "pull 123456", 84, 4);
        fault("pull 1;".repeat(20), 84, 4);
        fault("pull 1;".repeat(12), 84, 0);
        fault("pull 1;".repeat(12) + "push 1", 84, 0);
        says("pull 3 if 1=2;".repeat(11) + "pull 1", 1);
        says("pull 3 if 1=2;".repeat(10) + "pull 2 if 1=1;pull 1", 2);
    }

    private static void digits() {
        says("pull 99999 - 99998", 1);
        says("pull 00002", 2);
        says("pull 0", 0);
        fault("pull 100000", 5, 1);
        fault("pull 000001", 5, 1);
        fault("pull 1 + 100000", 9, 1);
        fault("pull 1 if 100000 = 1", 10, 1);
        fault("pull 1 if 1 = 100000", 14, 1);
        fault("pull 18446744073709551617", 5, 1);
        fault("pull 4294967297", 5, 1);
        // as far as digits go on
        fault("pull 1 2", 7, 0);
        says("pull 12/10", 1);
    }

    private static void wordsGoOn() {
        good("pull1if1=1");
        good("pull1if not1=1and wind=1or wind=2");
        fault("pull 1 if notwind = 1", 10, 0);
        fault("pull 1 if 1 = 1 andwind = 1", 16, 0);
        fault("pull 1 if 1 = windor 1 = 1", 14, 0);
        fault("pullwind", 0, 0);
        fault("pull winds", 5, 0);
        fault("pull win", 5, 0);
        fault("pull Wind", 5, 0);
        fault("pull wi nd", 5, 0);
        fault("pull w", 5, 0);
        fault("pull 1 i", 7, 0);
        fault("pull 1 iff 1=1", 7, 0);
        for (String word : new String[] {"puller", "side", "strong", "wind", "boots", "place", "mates", "ribbon", "line",
            "worked", "heave"}) {
            good("pull " + word);
            fault("pull " + word + "s", 5, 0);
            fault("pull " + word.substring(0, word.length() - 1), 5, 0);
            fault("pull 1 " + word, 7, 0);
            fault(word, 0, 0);
        }
        for (String word : new String[] {"rope", "pull", "if", "and", "or", "not"}) {
            fault("pull " + word, 5, 0);
            fault("pull 1 + " + word, 9, 0);
            fault("pull 1 if 1 = " + word, 14, 0);
        }
    }

    private static void signs() {
        for (String sign : new String[] {"<", "<=", "=", ">=", ">"}) {
            good("pull 1 if 1" + sign + "1");
            good("pull 1 if 1 " + sign + " 1");
            fault("pull 1 if 1 " + sign, 12 + sign.length(), 0);
            fault("pull 1 if " + sign + " 1", 10, 0);
        }
        fault("pull 1 if 1 < = 1", 14, 0);
        fault("pull 1 if 1 > = 1", 14, 0);
        fault("pull 1 if 1 <> 1", 13, 0);
        fault("pull 1 if 1 >< 1", 13, 0);
        fault("pull 1 if 1 =< 1", 13, 0);
        fault("pull 1 if 1 => 1", 13, 0);
        fault("pull 1 if 1 == 1", 13, 0);
        fault("pull 1 if 1 <== 1", 14, 0);
        fault("pull 1 if 1 ! 1", 12, 0);
        fault("pull 1 if 1 = 1 = 1", 16, 0);
        fault("pull 1 if 1", 11, 0);
        fault("pull 1 if 1 and 1", 12, 0);
    }

    private static void tenDeep() {
        good("pull 1 if " + "[".repeat(10) + "1=1" + "]".repeat(10));
        good("pull 1 if " + "not ".repeat(10) + "1=1");
        good("pull 1 if " + "not[".repeat(5) + "1=1" + "]".repeat(5));
        good("pull 1 if " + "[not ".repeat(5) + "1=1" + "]".repeat(5));
        fault("pull 1 if " + "[".repeat(11) + "1=1" + "]".repeat(11), 20, 2);
        fault("pull 1 if " + "not ".repeat(11) + "1=1", 50, 2);
        fault("pull 1 if " + "not ".repeat(10) + "[1=1]", 50, 2);
        fault("pull 1 if " + "[".repeat(10) + "not 1=1", 20, 2);
        fault("pull 1 if " + "[".repeat(10) + "   not 1=1", 23, 2);
        fault("pull 1 if " + "[".repeat(10) + "1=1 and [1=1]", 28, 2);
        fault("pull 1 if " + "[".repeat(10) + "1=1 or not 1=1", 27, 2);
        fault("pull 1 if " + "[".repeat(11), 20, 2);
        fault("pull 1 if " + "not[".repeat(5) + "1=1 and not", 38, 2);
        says("pull 2 if " + "not ".repeat(10) + "1=1;pull 1", 2);
        says("pull 2 if " + "not ".repeat(9) + "1=1;pull 1", 1);
        says("pull 2 if " + "not[".repeat(5) + "1=1" + "]".repeat(5) + ";pull 1", 1);
    }

    /** What is closed, or what a not has had its FACT of, is no longer around what follows. */
    private static void deepInOneAnotherAlone() {
        String ten = "[".repeat(10) + "1=1" + "]".repeat(10);
        good("pull 1 if " + ten + " and " + ten + " or " + ten);
        good("pull 1 if " + ten + ";pull 1 if " + ten);
        String nots = "not ".repeat(10) + "1=1";
        good("pull 1 if " + nots + " and " + nots + " or " + nots);
        good("pull 1 if " + nots + ";pull 1 if " + nots);
        good("pull 1 if " + "[".repeat(9) + "not 1=1 and not 1=1 or not 1=1" + "]".repeat(9));
        good("pull 1 if " + "[".repeat(9) + "[1=1] and [1=1] or [1=1]" + "]".repeat(9));
        good("pull 1 if " + "not[".repeat(5) + "1=1" + "]".repeat(5) + " and " + "not[".repeat(5) + "1=1" + "]".repeat(5));
        good("pull 1 if [" + "not ".repeat(9) + "1=1]and[" + "not ".repeat(9) + "1=1]");
        fault("pull 1 if [" + "not ".repeat(9) + "1=1]and[" + "not ".repeat(10) + "1=1]", 91, 2);
        fault("pull 1 if " + ten + " and [" + ten + "]", 48, 2);
        // and and or are around nothing, whatever was joined by them ahead
        fault("pull 1 if 1=1 or 1=1 or " + "[".repeat(11), 34, 2);
        fault("pull 1 if 1=1 and 1=1 and 1=1 or " + "[".repeat(11), 43, 2);
        fault("pull 1 if [1=1 and 1=1 or 1=1] and " + "not ".repeat(11), 75, 2);
        fault("pull 1 if [1=1 or 1=1 or 1=1 and " + "[".repeat(10), 42, 2);
        good("pull 1 if [1=1 or 1=1 or 1=1 and " + "[".repeat(9) + "1=1" + "]".repeat(10));
    }

    private static void sixtyTogether() {
        good("pull 1" + "+1".repeat(59));
        fault("pull 1" + "+1".repeat(60), 125, 3);
        fault("pull 1" + "+1".repeat(59) + "+heave", 125, 3);
        fault("pull 1" + "*1".repeat(59) + "   %   wind", 131, 3);
        fault("pull 1" + "+1".repeat(100), 125, 3);
        // a VALUE, then 18 FACTS of three each, and one of five
        good("pull 1 if 1=1" + "or 1=1".repeat(17) + "and 1+1=1+1");
        fault("pull 1 if 1=1" + "or 1=1".repeat(17) + "and 1+1=1+1+1", 127, 3);
        says("pull 2" + "+0".repeat(59), 2);
        says("pull 0" + "+0".repeat(58) + "+2", 2);
        // the 60th is joined to the one ahead of it alone: 30 less 28, and less none
        says("pull 1" + "+1".repeat(29) + "-1".repeat(29) + "/2", 2);
        says("pull 1" + "+1".repeat(28) + "-1".repeat(29) + "/2+0", 1);
    }

    private static void sixtyAtTheSign() {
        // 57 VALUES, a VALUE, a SIGN, a VALUE are 60
        good("pull 1" + "+1".repeat(56) + " if 1=1");
        good("pull 1" + "+1".repeat(56) + " if not [1<=1]");
        fault("pull 1" + "+1".repeat(57) + " if 1=1", 126, 3);
        fault("pull 1" + "+1".repeat(57) + " if 1=wind", 126, 3);
        fault("pull 1" + "+1".repeat(58) + " if 1=1", 127, 3);
        fault("pull 1" + "+1".repeat(58) + " if 1  >=  1", 129, 3);
        fault("pull 1" + "+1".repeat(59) + " if 1=1", 128, 3);
        fault("pull 1" + "+1".repeat(56) + " if 1=1+1", 126, 3);
        fault("pull 1" + "+1".repeat(56) + " if 1=1 and 1=1", 130, 3);
        fault("pull 1" + "+1".repeat(54) + " if 1=1 and 1=1", 128, 3);
        fault("pull 1" + "+1".repeat(55) + " if 1=1 and 1=1", 129, 3);
        good("pull 1" + "+1".repeat(53) + " if 1=1 and 1=1");
    }

    private static void sixtyOfOneRule() {
        good("pull 1;".repeat(11) + "pull 1" + "+1".repeat(48));
        fault("pull 1;".repeat(11) + "pull 1" + "+1".repeat(49), 77 + 5 + 98, 3);
        // a second RULE has sixty of its own
        TugRope t = new TugRope();
        check.is("sixty", Check.tellRule(t, "pull 1" + "+1".repeat(59)), 0);
        check.is("sixty more", Check.tellRule(t, "pull 1" + "+1".repeat(59)), 1);
        check.is("sixty-one", Check.tellRule(t, "pull 1" + "+1".repeat(60)), Check.fault(125, 3));
        check.is("sixty again", Check.tellRule(t, "pull 1" + "+1".repeat(59)), 2);
        check.is("deep", Check.tellRule(t, "pull 1 if " + "[".repeat(11)), Check.fault(20, 2));
        check.is("ten again", Check.tellRule(t, "pull 1 if " + "[".repeat(10) + "1=1" + "]".repeat(10)), 3);
    }

    /** As much as can be told: six RULES of sixty each, with FAULTS between, and each says what it says. */
    private static void sixtyOfEachOfSix() {
        TugRope t = Check.made("rope 60 0;puller 1 4 60 9");
        for (int i = 0; i < 6; i++) {
            check.is("sixty-one", Check.tellRule(t, "pull 1" + "*1".repeat(60)), Check.fault(125, 3));
            check.is("sixty", Check.tellRule(t, "pull " + i % 4 + "*1".repeat(50) + " if 1+1+1+1=1+1+1+1"), i);
        }
        for (int i = 5; i >= 0; i--) {
            t.force(i);
            int was = t.ribbon();
            check.is("rule " + i + " of sixty", t.heave() - was, i % 4);
        }
    }

    private static void endOfTheText() {
        fault("", 0, 0);
        fault("  ", 2, 0);
        fault("pull", 4, 0);
        fault("pull ", 5, 0);
        fault("pull 1 +", 8, 0);
        fault("pull 1 if", 9, 0);
        fault("pull 1 if ", 10, 0);
        fault("pull 1 if not", 13, 0);
        fault("pull 1 if [", 11, 0);
        fault("pull 1 if [1=1", 14, 0);
        fault("pull 1 if [[1=1]", 16, 0);
        fault("pull 1 if 1=1 and", 17, 0);
        fault("pull 1 if 1=1 or ", 17, 0);
        fault("pull 1;", 7, 0);
        fault("pull 1 ; ", 9, 0);
        // instead of the end
        fault("pull;", 4, 0);
        fault("pull 1 if;pull 1", 9, 0);
        fault("pull 1 if [1=1;pull 1]", 14, 0);
        fault("pull 1;;pull 1", 7, 0);
        fault(";pull 1", 0, 0);
    }

    private static void whatCannotStand() {
        fault("pull 1 if 1=1]", 13, 0);
        fault("pull 1 if [1=1]]", 15, 0);
        fault("pull 1]", 6, 0);
        fault("pull [1]", 5, 0);
        fault("pull 1 if []", 11, 0);
        fault("pull 1 if [1]=1", 12, 0);
        fault("pull 1 if [1=1]=1", 15, 0);
        fault("pull 1 if [1=1][1=1]", 15, 0);
        fault("pull 1 if 1=1 not 1=1", 14, 0);
        fault("pull 1 if not not", 17, 0);
        fault("pull 1 if and 1=1", 10, 0);
        fault("pull 1 if 1=1 and or 1=1", 18, 0);
        fault("pull 1 if 1=1 if 1=1", 14, 0);
        fault("pull if 1=1", 5, 0);
        fault("pull -1", 5, 0);
        fault("pull +1", 5, 0);
        fault("pull 1--1", 7, 0);
        fault("pull 1**1", 7, 0);
        fault("pull (1)", 5, 0);
        fault("pull 1.5", 6, 0);
        fault("pull 1,1", 6, 0);
        fault("pull\t1", 4, 0);
        fault("pull 1\0", 6, 0);
        fault("pull 1\u00ff", 6, 0);
        fault("pull \u00e9", 5, 0);
        fault("rope 1 0", 0, 0);
        fault("ribbon 0", 0, 0);
    }

    private static void firstFaultAlongTheText() {
        fault("pull 100000 + x", 5, 1);
        fault("pull x + 100000", 5, 0);
        fault("pull 1 if " + "[".repeat(11) + "100000", 20, 2);
        fault("pull 1 if " + "[".repeat(10) + "100000" + "[", 20, 1);
        fault("pull 1" + "+1".repeat(58) + "+x+1+1", 123, 0);
        fault("pull 1" + "+1".repeat(60) + "+x", 125, 3);
        fault("pull 1;".repeat(11) + "pull 1 1;pull 1", 84, 0);
        fault("pull 1;".repeat(12) + "pull x", 84, 4);
    }

    private static void ofOnePlaceTheLeast() {
        String sixty = "pull 1" + "+1".repeat(59);
        fault(sixty + "+100000", 125, 1);
        fault(sixty + "+x", 125, 0);
        fault(sixty + "+[", 125, 0);
        fault(sixty + "+", 125, 0);
        fault("pull 1 if " + "[".repeat(10) + "]", 20, 0);
        fault("pull 1 if 1 = [", 14, 0);
        fault("pull 1 if 1 = not", 14, 0);
        fault("pull 1 100000", 7, 0);
    }

    /** Each SIGN just below, at and just above, alone, within not, and joined by and and or. */
    private static void eachSignHoldsOrNot() {
        String[] signs = {"<", "<=", "=", ">=", ">"};
        boolean[][] due = {{true, false, false}, {true, true, false}, {false, true, false}, {false, true, true}, {false, false, true}};
        for (int i = 0; i < signs.length; i++) {
            for (int left = 4; left <= 6; left++) {
                String fact = left + signs[i] + "5";
                means(fact, due[i][left - 4]);
                means("not " + fact, !due[i][left - 4]);
                means("not not " + fact, due[i][left - 4]);
                means("not [" + fact + "]", !due[i][left - 4]);
                means(fact + " and 1=1", due[i][left - 4]);
                means("1<2 and " + fact, due[i][left - 4]);
                means(fact + " or 1=2", due[i][left - 4]);
                means("not [" + fact + " or 1=2] and 1>=1", !due[i][left - 4]);
                means("not [2>1 and " + fact + "] or 1>1", !due[i][left - 4]);
            }
        }
    }

    private static void means(String test, boolean due) {
        if (due) {
            holds(0, test);
        } else {
            fails(0, test);
        }
    }

    private static void byNothing() {
        says("pull 2 + 5 / 0", 2);
        says("pull 2 + 5 % 0", 2);
        says("pull 2 + 0 / 0", 2);
        says("pull 2 + 0 % 0", 2);
        says("pull 2 + 5 / ribbon * 9", 2);
        says("pull 2 + 5 % ribbon + 1", 3);
        says(-7, "pull 2 + ribbon / 0", 2);
        says(-7, "pull 2 + ribbon % 0", 2);
        holds(0, "1 / 0 = 0 and 1 % 0 = 0");
        holds(0, "99999 / 1 = 99999 and 99999 % 1 = 0");
    }

    private static void towardsNothing() {
        says(-7, "pull 5 + ribbon / 2", 2);
        says(-7, "pull 3 + ribbon % 2", 2);
        says(-7, "pull 2 + ribbon / 8", 2);
        says(-7, "pull 8 + ribbon % 8", 1);
        says(7, "pull ribbon / 3", 2);
        says(7, "pull ribbon % 3", 1);
        holds(-7, "7 / ribbon = 0 - 1 and 8 / ribbon = 0 - 1 and 6 / ribbon = 0 and 8 % ribbon = 1");
        holds(-1, "ribbon / 1 = 0 - 1 and ribbon % 1 = 0");
    }

    private static void roundInSixtyFourBits() {
        String least = "32768*65536*65536*65536";
        holds(0, least + " < 0");
        holds(0, least + " - 1 > 0");
        holds(0, least + " - 1 + 1 < 0");
        holds(0, "65536*65536*65536*65536 = 0");
        holds(0, "65536*65536*65536*65536 + 1 = 1");
        holds(0, "65536*65536 > 99999");
        fails(0, "65536*65536 = 0");
        holds(-1, least + " / ribbon < 0");
        holds(-1, least + " / ribbon = " + least);
        holds(-1, least + " % ribbon = 0");
        holds(-1, least + " * ribbon = " + least);
    }

    private static void noughtToThree() {
        says("pull 0", 0);
        says("pull 3", 3);
        says("pull 4", 3);
        says("pull 99999", 3);
        says("pull 0 - 1", 0);
        says("pull 0 - 99999", 0);
        // numbers of more than 32 bits are not cut to these
        says("pull 65536*65536", 3);
        says("pull 65536*65536 + 1", 3);
        says("pull 1 - 65536*65536", 0);
        says("pull 32768*65536*65536*65536", 0);
        says("pull 32768*65536*65536*65536 - 1", 3);
    }

    private static void noMoreThanWind() {
        for (int wind = 0; wind <= 4; wind++) {
            for (int wanted = 0; wanted <= 4; wanted++) {
                TugRope t = Check.made("rope 60 0;puller 1 4 " + wind + " 9", "pull " + wanted);
                int effort = Math.min(Math.min(wanted, 3), wind);
                check.is("effort of " + wanted + " with wind " + wind, t.heave() - 100, effort);
                check.is("worked", t.puller(0, 6), effort);
            }
        }
    }

    private static void firstClauseThatHolds() {
        says("pull 1;pull 2", 1);
        says("pull 1 if 1=1;pull 2", 1);
        says("pull 1 if 1=2;pull 2 if 1=1;pull 3", 2);
        says("pull 1 if 1=2", 0);
        says("pull 1 if 1=2;pull 2 if 1=2;pull 3 if 1=2", 0);
        // 0 by a CLAUSE that holds is not what a later one says
        says("pull 0 if 1=1;pull 2", 0);
        says("pull 0;pull 2", 0);
    }

    private static void withoutRuleTwo() {
        TugRope t = Check.made("rope 60 0;puller 1 4 60 9");
        check.is("none was told", t.heave(), 102);
        Check.tellRule(t, "pull 3");
        check.is("none is IN FORCE yet", t.heave(), 104);
        t.force(0);
        check.is("one is", t.heave(), 107);
        t.force(-1);
        check.is("none again", t.heave(), 109);
        check.is("with WIND 1", Check.made("rope 60 0;puller 1 4 1 9").heave(), 101);
        check.is("with WIND 0", Check.made("rope 60 0;puller 1 4 0 9").heave(), 100);
    }

    private static void wordsAtTheirEdges() {
        String eight = "rope 60 9" + ";puller 1 40 60 9".repeat(7) + ";puller 0 1 0 0";
        TugRope t = Check.made(eight, "pull 1 if puller = 6 and place = 6 and mates = 6 and side = 1 and strong = 40"
            + " and wind = 60 and boots = 9 and ribbon = 0 and line = 60 and worked = 0 and heave = 0",
            "pull 1 if puller = 7 and place = 0 and mates = 0 and side = 0 and strong = 1 and wind = 9 and boots = 0"
                + " and ribbon + 10 = 0 and line = 60 and worked = 0 and heave = 2");
        check.is("the seventh alone pulls", t.heave(), 110);
        check.is("by what was told", t.puller(6, 6), 1);
        t.breath(7, 9);
        t.force(1);
        t.heave();
        check.is("the last is down, in HEAVE 1", t.count(9), 1);
        t.heave();
        check.is("the last alone pulls", t.puller(7, 6), 1);
        TugRope asked = Check.made("rope 60 0;puller 1 4 60 9", "pull 1 if heave > 98");
        check.is("HEAVE 99 is the last of 100 that are asked", asked.ahead(0, 100, 0), 101);
    }

    private static void sixRules() {
        TugRope t = Check.made("rope 60 0;puller 1 4 60 9");
        for (int i = 0; i < 6; i++) {
            check.is("rules ahead of it", t.count(3), i);
            check.is("its number", Check.tellRule(t, "pull " + i % 4), i);
        }
        check.is("there are 6", Check.tellRule(t, "pull 1"), -1);
        check.is("nothing happens", t.count(13), 6);
        check.is("with a FAULT, too", Check.tellRule(t, "push"), -1);
        check.is("nothing happens", t.count(13), 4);
        t.end(0);
        check.is("with no bytes, too", t.rule(), -1);
        check.is("rules", t.count(3), 6);
        for (int i = 5; i >= 0; i--) {
            t.force(i);
            int was = t.ribbon();
            check.is("it says what it said", t.heave() - was, i % 4);
        }
    }

    private static void tapeIsEmptyThen() {
        TugRope t = new TugRope();
        Check.tell(t, "pull 1" + " ".repeat(394));
        check.is("rule", t.rule(), 0);
        check.is("empty", t.count(13), 0);
        check.is("no bytes", t.rule(), -3);
        check.is("20 come to be 20", t.feed(0, 0, 0, 0, 0), 20);
        check.is("a FAULT", t.rule(), -3);
        check.is("empty", t.count(13), 0);
        check.is("rules", t.count(3), 1);
        check.is("in force", t.count(4), -1);
        for (String state : new String[] {"nothing told", "no pullers", "busy", "over"}) {
            Twins.leaves(check, "a rule with a FAULT, " + state, () -> emptied(state),
                r -> Check.tellRule(r, "pull 1 if 1=1 and"), Check.fault(17, 0));
        }
    }

    private static TugRope emptied(String state) {
        TugRope t = States.named(state).get();
        t.end(0);
        return t;
    }

    private static void forceOfWhichThereAre() {
        TugRope t = new TugRope();
        check.is("none of none", t.force(-1), -1);
        check.is("0 of none", t.force(0), -2);
        for (int i = 0; i < 6; i++) {
            check.is("one behind the last", t.force(i), -2);
            Check.tellRule(t, "pull " + i % 4);
            check.is("the last, without a ROPE", t.force(i), i - 1);
            check.is("in force", t.count(4), i);
            check.is("one behind the last", t.force(i + 1), -2);
            check.is("below NONE", t.force(-2), -2);
            check.is("still in force", t.count(4), i);
        }
        check.is("the same again", t.force(5), 5);
        check.is("the first", t.force(0), 5);
        check.is("none", t.force(-1), 0);
        check.is("none again", t.force(-1), -1);
        check.is("in force", t.count(4), -1);
    }
}
