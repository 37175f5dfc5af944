/** Promises 20 to 24, 27 to 29, 33 and 34: what is asked of how it goes on, pence, seed and rain. */
public final class AheadTest {
    private static final Check check = new Check();
    private static final String GOOD = "rope 9 2;puller 0 10 6 3;puller 1 8 4 1;puller 0 4 9 9;puller 1 9 5 2;ribbon 9";

    public static void main(String[] args) {
        aheads();
        overs();
        rows();
        trades();
        outs();
        restsOfTwo();
        alikes();
        pences();
        seeds();
        rains();
        withoutRope();
        check.close("AheadTest");
    }

    private static void aheads() {
        TugRope t = Check.made(GOOD);
        int[] ribbons = {101, 102, 103, 99, 101};
        int[] winds = {6, 4, 2, 0, 2};
        for (int n = 0; n <= 4; n++) {
            check.is("ribbon ahead " + n, t.ahead(-5, n, 0), ribbons[n]);
            check.is("wind ahead " + n, t.ahead(0, n, 1), winds[n]);
            check.is("who stands ahead " + n, t.ahead(99, n, 2), 15);
        }
        check.is("nothing stays", t.ribbon(), 101);
        check.is("nothing stays", t.count(5), 0);
        check.is("nothing stays", t.count(11), 0);
        t.heave();
        check.is("from here on", t.ahead(0, 2, 0), 99);
        check.is("n 100", t.ahead(0, 100, 2) >= 0 ? 1 : 0, 1);
        check.is("n 101", t.ahead(0, 101, 0), -1);
        check.is("n -1", t.ahead(0, -1, 0), -1);
        check.is("what 3", t.ahead(0, 1, 3), -1);
        check.is("what -1", t.ahead(0, 1, -1), -1);
        check.is("wind of nobody", t.ahead(4, 1, 1), -1);
        check.is("wind of nobody", t.ahead(-1, 1, 1), -1);
        TugRope down = Check.made("rope 60 9;puller 1 4 60 0;puller 0 1 0 0", "pull 3 if heave = 1");
        check.is("stand", down.ahead(0, 1, 2), 3);
        check.is("slipped", down.ahead(0, 2, 2), 1);
        check.is("stand again", down.ahead(0, 3, 2), 3);
    }

    private static void overs() {
        // 4 and 8 behind HEAVES 0 and 1, a rest in HEAVE 2, 12 behind HEAVE 3
        TugRope t = Check.made("rope 9 2;puller 1 8 4 1");
        for (int heave = 0; heave <= 3; heave++) {
            check.is("HEAVE", t.count(5), heave);
            check.is("HEAVE 3, asked in " + heave, t.over(0), 3);
            check.is("side 1", t.over(1), 1);
            t.heave();
        }
        check.is("what 2", t.over(2), -1);
        check.is("what -1", t.over(-1), -1);
        check.is("over", t.count(8), 1);
        check.is("over already", t.over(0), 4);
        check.is("over already", t.over(1), 1);
        t.heave();
        check.is("over already, this HEAVE", t.over(0), 5);
        t.undo();
        check.is("undone", t.over(0), 4);
        t.send(0);
        t.set(100);
        check.is("rests in 4, 6 and 8", t.over(0), 9);
        check.is("side 0", t.over(1), 0);
        TugRope never = Check.made("rope 60 0;puller 1 1 60 9");
        check.is("never", never.over(0), -2);
        check.is("never", never.over(1), -2);
        oversAtOnce();
        oversOfTwoHundred();
    }

    private static void oversAtOnce() {
        TugRope t = Check.made("rope 1 0;puller 0 4 60 9");
        check.is("HEAVE 0 is the one", t.over(0), 0);
        check.is("side 0", t.over(1), 0);
        TugRope later = Check.made("rope 60 0;puller 1 40 60 9");
        check.is("20, 40, 60", later.over(0), 2);
        later.heave();
        check.is("asked in HEAVE 1", later.over(0), 2);
        later.heave();
        check.is("this HEAVE, 2, is the one", later.over(0), 2);
        later.image(0);
        later.set(100);
        check.is("set back in HEAVE 2", later.over(0), 4);
        later.back(0);
        check.is("as in the image", later.over(0), 2);
        Check.tellRope(later, "rope 60 0;puller 1 40 60 9");
        check.is("told anew it is HEAVE 0", later.over(0), 2);
    }

    private static void oversOfTwoHundred() {
        String rope = "rope 1 0;puller 1 4 60 9";
        TugRope last = Check.made(rope, "pull 1 if heave = 199");
        check.is("HEAVE 199 is the last of 200", last.over(0), 199);
        check.is("its side", last.over(1), 1);
        TugRope beyond = Check.made(rope, "pull 1 if heave = 200");
        check.is("HEAVE 200 is not of these", beyond.over(0), -2);
        beyond.heave();
        check.is("from HEAVE 1 on it is", beyond.over(0), 200);
        check.is("from HEAVE 1 on it is", beyond.over(1), 1);
        TugRope late = Check.made(rope, "pull 1 if heave = 202");
        late.heave();
        late.heave();
        check.is("HEAVE 202 is not of those from 2 on", late.over(0), -2);
        late.heave();
        check.is("it is of those from 3 on", late.over(0), 202);
    }

    private static void row(TugRope t, int who, int far, int... efforts) {
        int n = efforts.length;
        check.is("row far", t.row(who, n, 0), far);
        for (int i = 1; i <= 4; i++) {
            check.is("row heave " + i + " of " + n, t.row(who, n, i), i <= n ? efforts[i - 1] : -1);
        }
    }

    private static void rows() {
        // an EFFORT draws as far as it is; WIND is 3, and 2 come back by resting
        TugRope t = Check.made("rope 60 0;puller 1 4 3 0");
        row(t, 0, 103, 3);
        row(t, 0, 103, 0, 3);
        row(t, 0, 105, 2, 0, 3);
        row(t, 0, 106, 3, 0, 0, 3);
        TugRope u = Check.made("rope 60 0;puller 0 4 3 0;puller 1 20 60 9");
        row(u, 0, 93, 3);
        check.is("nothing stays", u.ribbon(), 100);
        TugRope over = Check.made("rope 2 0;puller 1 4 9 0");
        row(over, 0, 104, 1, 3);
        over.heave();
        row(over, 0, 102, 0, 0, 0, 0);
        TugRope down = Check.made("rope 60 9;puller 1 8 60 0;puller 0 4 60 0", "pull 3 if side = 1 and heave = 0");
        down.heave();
        check.is("down", down.count(7), 1);
        row(down, 1, 97, 0, 3);
        check.is("n 0", t.row(0, 0, 0), -2);
        check.is("n 5", t.row(0, 5, 0), -2);
        check.is("what 5", t.row(0, 4, 5), -2);
        check.is("what -1", t.row(0, 4, -1), -2);
        check.is("nobody", t.row(1, 4, 0), -2);
        check.is("nobody", t.row(-1, 4, 0), -2);
    }

    private static void trades() {
        TugRope t = Check.made("rope 60 0;puller 0 1 9 9;puller 1 9 9 9;puller 1 1 9 9");
        check.is("how near", t.trade(1, 0), 3);
        check.is("of side 0", t.trade(1, 1), 0);
        check.is("of side 1", t.trade(1, 2), 1);
        check.is("nothing stays", t.puller(0, 0), 0);
        TugRope alike = Check.made("rope 60 0;puller 0 4 9 9;puller 1 4 9 9");
        check.is("none, as near", alike.trade(5, 0), 0);
        check.is("none", alike.trade(5, 1), -1);
        check.is("none", alike.trade(5, 2), -1);
        // both of SIDE 1 would do: the least; and both of SIDE 0
        TugRope several = Check.made("rope 60 0;puller 1 5 9 9;puller 0 1 9 9;puller 0 1 9 9;puller 1 5 9 9");
        check.is("near", several.trade(1, 0), 0);
        check.is("least of side 0", several.trade(1, 1), 1);
        check.is("least of side 1", several.trade(1, 2), 0);
        // the place changes, too: who comes to stand first slips
        TugRope place = Check.made("rope 60 0;puller 0 2 9 9;puller 1 6 9 9",
            "pull 3 if place = 0 and side = 1;pull 0");
        check.is("near: 6 by 3 is 4, 2 by 3 is 1", place.trade(1, 0), 1);
        int[][] bad = {{0, 0}, {41, 0}, {1, 3}, {1, -1}, {-1, 0}};
        for (int[] b : bad) {
            check.is("trade " + b[0] + " " + b[1], t.trade(b[0], b[1]), -2);
        }
        TugRope oneSide = Check.made("rope 60 0;puller 0 4 9 9;puller 0 8 9 9;puller 0 2 9 9");
        check.is("nobody to change with", oneSide.trade(2, 0), 14);
        check.is("nobody to change with", oneSide.trade(2, 1), -1);
        TugRope places = Check.made("rope 60 0;puller 0 8 9 9;puller 0 4 9 9", "pull 1 if place = 0");
        check.is("two of one SIDE do not change", places.trade(1, 0), 2);
        check.is("two of one SIDE do not change", places.trade(1, 1), -1);
        check.is("n 40", t.trade(40, 0) >= 0 ? 1 : 0, 1);
        check.is("nobody's", Check.made("rope 5 0;ribbon 6").trade(3, 0), 2);
    }

    private static void outs() {
        TugRope t = Check.made("rope 60 0;puller 0 1 9 9;puller 1 9 9 9;puller 1 1 9 9");
        check.is("who", t.out(1, 0), 1);
        check.is("how near", t.out(1, 1), 0);
        check.is("nothing stays", t.ribbon(), 100);
        TugRope alike = Check.made("rope 60 0;puller 0 4 9 9;puller 1 4 9 9");
        check.is("nobody", alike.out(5, 0), -1);
        check.is("how near", alike.out(5, 1), 0);
        TugRope several = Check.made("rope 60 0;puller 0 4 60 9;puller 1 4 60 9;puller 1 4 60 9");
        check.is("the least", several.out(3, 0), 1);
        check.is("near", several.out(3, 1), 0);
        int[][] bad = {{0, 0}, {41, 0}, {1, 2}, {1, -1}, {-1, 0}};
        for (int[] b : bad) {
            check.is("out " + b[0] + " " + b[1], t.out(b[0], b[1]), -2);
        }
        check.is("n 40", t.out(40, 1) >= 0 ? 1 : 0, 1);
        check.is("of nobody", Check.made("rope 5 0;ribbon 6").out(3, 0), -1);
        check.is("of nobody", Check.made("rope 5 0;ribbon 6").out(3, 1), 2);
    }

    private static void rests(String rope, int n, int many, int one, int other) {
        TugRope t = Check.made(rope, "pull 1");
        check.is("rests many " + rope, t.rests(0, 1, n, 0), many);
        check.is("rests one " + rope, t.rests(0, 1, n, 1), one);
        check.is("rests other " + rope, t.rests(0, 1, n, 2), other);
    }

    private static void restsOfTwo() {
        // by STRONG 4 an EFFORT brings as much as it takes: every two stays
        rests("rope 60 0;puller 0 4 9 9;puller 1 4 9 9", 1, 16, 0, 0);
        rests("rope 60 0;puller 0 8 9 9;puller 1 8 9 9", 1, 1, 3, 3);
        rests("rope 60 0;puller 0 2 9 9;puller 1 2 9 9", 1, 1, 0, 0);
        // a quarter of 24 is 6, one of 22 is 5: EFFORT 1 brings the weak one as much as it takes
        rests("rope 60 0;puller 0 8 9 9;puller 1 2 9 9", 1, 2, 3, 0);
        // only 2 of WIND are there: EFFORTS 2 and 3 are alike
        rests("rope 60 0;puller 0 8 2 9;puller 1 2 9 9", 1, 4, 2, 0);
        TugRope t = Check.made("rope 60 0;puller 0 8 9 9;puller 1 2 9 9;puller 1 1 9 9");
        check.is("the other way round", t.rests(1, 0, 1, 1), 0);
        check.is("the other way round", t.rests(1, 0, 1, 2), 3);
        int[][] bad = {{0, 0, 1, 0}, {0, 3, 1, 0}, {3, 0, 1, 0}, {-1, 0, 1, 0}, {0, -1, 1, 0}, {0, 1, 0, 0},
            {0, 1, 21, 0}, {0, 1, 1, 3}, {0, 1, 1, -1}};
        for (int[] b : bad) {
            check.is("rests " + b[0] + " " + b[1] + " " + b[2] + " " + b[3], t.rests(b[0], b[1], b[2], b[3]), -1);
        }
        check.is("n 20", t.rests(0, 1, 20, 0) >= 0 ? 1 : 0, 1);
        check.is("nothing stays", t.ribbon(), 100);
    }

    private static void alike(String when, TugRope t, int heave, int later) {
        check.is("alike " + when, t.alike(0), heave);
        check.is("how much later " + when, t.alike(1), later);
    }

    private static void alikes() {
        TugRope t = Check.made("rope 60 0;puller 1 1 2 0");
        for (int heave = 0; heave < 4; heave++) {
            alike("2, 0, 2, 0: this one", t, heave, 2);
            t.heave();
        }
        check.is("what 2", t.alike(2), -1);
        check.is("what -1", t.alike(-1), -1);
        TugRope more = Check.made("rope 60 0;puller 1 1 2 0");
        more.breath(0, 3);
        for (int heave = 0; heave < 6; heave++) {
            alike("5, 3, 1, 0, 2, 0, in " + heave, more, Math.max(3, heave), 2);
            more.heave();
        }
        TugRope over = Check.made("rope 1 0;puller 1 4 60 9");
        alike("over in the next", over, 1, 1);
        over.heave();
        alike("over, at once", over, 1, 1);
        over.heave();
        alike("over, in HEAVE 2", over, 2, 1);
        over.undo();
        alike("undone", over, 1, 1);
        // HEAVE 1 begins with one down, else it were as HEAVE 2
        TugRope down = Check.made("rope 60 9;puller 1 4 0 9;puller 0 4 0 0", "pull 1 if heave = 0 and side = 1");
        down.breath(0, 9);
        for (int heave = 0; heave < 4; heave++) {
            alike("who stands counts, in " + heave, down, Math.max(2, heave), 1);
            down.heave();
        }
        alike("nobody", Check.made("rope 9 0"), 0, 1);
        alikesOfSixty();
    }

    private static void alikesOfSixty() {
        TugRope late = Check.made("rope 60 0;puller 1 1 59 9", "pull 1");
        alike("59 to 0, then 2", late, 57, 3);
        late.heave();
        alike("asked in HEAVE 1", late, 57, 3);
        TugRope beyond = Check.made("rope 60 0;puller 1 1 60 9", "pull 1");
        alike("60 to 0, the next is not of these", beyond, -2, -2);
        beyond.heave();
        alike("from HEAVE 1 on it is", beyond, 58, 3);
        TugRope last = Check.made("rope 60 0;puller 1 4 60 9;puller 0 1 60 9", "pull 1 if side = 1 and heave < 59");
        alike("HEAVE 59 and 60 begin alike but for WIND", last, -2, -2);
    }

    private static void pences() {
        TugRope t = Check.made(GOOD);
        check.is("nobody has worked", t.pence(100, 0), 0);
        t.heave();
        t.heave();
        t.heave();
        // 6, 4, 6, 5 of 21
        int[] due = {29, 19, 28, 24};
        int[] dueTwo = {1, 0, 1, 0};
        for (int who = 0; who < 4; who++) {
            check.is("pence 100 of " + who, t.pence(100, who), due[who]);
            check.is("pence 2 of " + who, t.pence(2, who), dueTwo[who]);
            check.is("pence 0 of " + who, t.pence(0, who), 0);
        }
        int sum = 0;
        for (int who = 0; who < 4; who++) {
            sum += t.pence(9999, who);
        }
        check.is("all pence", sum, 9999);
        check.is("too many", t.pence(10000, 0), -1);
        check.is("too few", t.pence(-1, 0), -1);
        check.is("nobody", t.pence(5, 4), -1);
        check.is("nobody", t.pence(5, -1), -1);
    }

    private static void seeds() {
        TugRope t = new TugRope();
        check.is("0 at first", t.seed(5), 0);
        check.is("then 5", t.seed(Integer.MAX_VALUE), 5);
        check.is("below 0", t.seed(-1), -1);
        check.is("below 0", t.seed(Integer.MIN_VALUE), -1);
        check.is("x", t.count(12), Integer.MAX_VALUE);
        check.is("then", t.seed(0), Integer.MAX_VALUE);
    }

    private static void rains() {
        // DRAWS from 0 on: 0, 21468, 9988, 22117, 3498, 16927, 16045
        TugRope t = Check.made("rope 60 0;puller 1 4 60 9;puller 0 8 60 9;puller 1 12 60 9");
        check.is("one time: 2 and 4", t.rain(1, 2, 50, 1), 206);
        check.is("two times: 6, then 2 and 8", t.rain(2, 2, 50, 1), 416);
        check.is("nobody has it over", t.rain(2, 2, 50, 0), 0);
        check.is("x as it was", t.count(12), 0);
        check.is("nothing stays", t.ribbon(), 100);
        t.seed(7);
        // DRAWS from 7 on: 19564, 9806
        check.is("64 is below 65: 2 is wet", t.rain(1, 1, 65, 1), 198);
        check.is("64 is not below 64", t.rain(1, 1, 64, 1), 204);
        check.is("x as it was", t.count(12), 7);
        TugRope alone = Check.made("rope 5 0;puller 1 4 60 0");
        check.is("always wet", alone.rain(3, 10, 100, 1), 600);
        check.is("always wet", alone.rain(3, 10, 100, 0), 0);
        check.is("never wet: over at 6", alone.rain(2, 10, 0, 1), 412);
        check.is("never wet", alone.rain(2, 10, 0, 0), 2);
        alone.send(0);
        check.is("SIDE 0 has it", alone.rain(10, 60, 0, 0), 0);
        check.is("SIDE 0 has it", alone.rain(10, 60, 0, 1), 1940);
        check.is("over at the LINE itself", Check.made("rope 6 0;puller 1 4 60 0").rain(1, 3, 0, 0), 1);
        check.is("not over yet", Check.made("rope 7 0;puller 1 4 60 0").rain(1, 3, 0, 0), 0);
        check.is("nobody there", Check.made("rope 5 0").rain(10, 60, 100, 1), 2000);
        int[][] bad = {{0, 1, 0, 0}, {11, 1, 0, 0}, {1, 0, 0, 0}, {1, 61, 0, 0}, {1, 1, -1, 0}, {1, 1, 101, 0},
            {1, 1, 0, 2}, {1, 1, 0, -1}};
        for (int[] b : bad) {
            check.is("rain " + b[0] + " " + b[1] + " " + b[2] + " " + b[3], t.rain(b[0], b[1], b[2], b[3]), -1);
        }
    }

    private static void withoutRope() {
        TugRope t = new TugRope();
        check.is("ahead", t.ahead(0, 0, 0), -1);
        check.is("over", t.over(0), -1);
        check.is("row", t.row(0, 1, 0), -2);
        check.is("trade", t.trade(1, 0), -2);
        check.is("out", t.out(1, 0), -2);
        check.is("rests", t.rests(0, 1, 1, 0), -1);
        check.is("alike", t.alike(0), -1);
        check.is("pence", t.pence(1, 0), -1);
        check.is("rain", t.rain(1, 1, 0, 0), -1);
    }
}
