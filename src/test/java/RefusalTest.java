import java.util.function.Supplier;
import java.util.function.ToIntFunction;

/**
 * Each call that is refused, with numbers just outside of each range a promise names and far outside, in
 * states from nothing told to as much as there can be: its answer, and that nothing has happened. And that
 * nothing happens by what is asked.
 */
public final class RefusalTest {
    private static final Check check = new Check();
    private static final int MIN = Integer.MIN_VALUE;
    private static final int MAX = Integer.MAX_VALUE;

    private final String state;
    private final Supplier<TugRope> make;
    private final int pullers;
    private final boolean ropeTold;

    private RefusalTest(String state) {
        this.state = state;
        make = States.named(state);
        TugRope t = make.get();
        pullers = t.count(2);
        ropeTold = t.ribbon() != -1;
    }

    public static void main(String[] args) {
        fullIsFull();
        for (String state : States.NAMES) {
            RefusalTest test = new RefusalTest(state);
            test.tape();
            test.acts();
            test.byStrength();
            test.byWhat();
            test.byHeaves();
            test.ofPullers();
            test.notes();
            test.rain();
            test.images();
            if (test.ropeTold) {
                test.asked();
            }
        }
        withoutRope();
        whenFull();
        whenNothingCanBe();
        check.close("RefusalTest");
    }

    /** As much is told as the document allows, or else the refusals would not be at the edge. */
    private static void fullIsFull() {
        TugRope t = States.full();
        int[][] counts = {{0, 60}, {1, 9}, {2, 8}, {3, 6}, {10, 10}, {11, 20}, {12, MAX}, {13, 400}};
        for (int[] one : counts) {
            check.is("full: count " + one[0], t.count(one[0]), one[1]);
        }
        check.is("over", States.over().count(8), 1);
        check.is("over, and one is down", States.over().count(7), 0b101);
        check.is("busy: acts", States.busy().count(11), 6);
    }

    private void refused(String call, int due, ToIntFunction<TugRope> made) {
        Twins.leaves(check, state + ": " + call, make, made, due);
    }

    private static int[] outside(int least, int most) {
        return new int[] {MIN, least - 1, most + 1, MAX};
    }

    /** Who is none of the PULLERS: -1, the next behind the last, and far ones. */
    private int[] nobody() {
        return outside(0, pullers - 1);
    }

    private void tape() {
        int bytes = make.get().count(13);
        for (int n : outside(0, bytes)) {
            refused("end " + n, -1, t -> t.end(n));
        }
        int rules = make.get().count(3);
        for (int rule : outside(-1, rules - 1)) {
            refused("force " + rule, -2, t -> t.force(rule));
        }
    }

    private void acts() {
        for (int who : nobody()) {
            refused("send " + who, -1, t -> t.send(who));
            refused("front " + who, -1, t -> t.front(who));
            refused("breath of " + who, -1, t -> t.breath(who, 1));
        }
        for (int who = 0; who < pullers; who++) {
            int one = who;
            for (int much : outside(1, 9)) {
                refused("breath " + much + " of " + who, -1, t -> t.breath(one, much));
            }
            if (make.get().puller(who, 4) == 0) {
                refused("front of the first " + who, -1, t -> t.front(one));
            }
        }
        int line = make.get().count(0);
        for (int ribbon : outside(101 - line, 99 + line)) {
            refused("set " + ribbon, -1, t -> t.set(ribbon));
        }
        refused("set to where it is", -1, t -> t.set(t.ribbon()));
    }

    private void byStrength() {
        for (int what : outside(0, 1)) {
            refused("fair " + what, -1, t -> t.fair(what));
            refused("fewest " + what, -1, t -> t.fewest(what));
        }
        for (int who : nobody()) {
            refused("swings " + who, -1, t -> t.swings(who));
            refused("shares " + who, -1, t -> t.shares(who));
        }
    }

    private void byWhat() {
        for (int what : outside(0, 1)) {
            refused("over " + what, -1, t -> t.over(what));
            refused("alike " + what, -1, t -> t.alike(what));
            refused("ruled " + what, -3, t -> t.ruled(what));
            refused("look " + what, -1, t -> t.look(what));
            refused("out what " + what, -2, t -> t.out(1, what));
            refused("strengths what " + what, -1, t -> t.strengths(0, what));
            refused("winds what " + what, -1, t -> t.winds(0, what));
            refused("rain what " + what, -1, t -> t.rain(1, 1, 0, what));
        }
        for (int what : outside(0, 2)) {
            refused("ahead what " + what, -1, t -> t.ahead(0, 1, what));
            refused("trade what " + what, -2, t -> t.trade(1, what));
            refused("rests what " + what, -1, t -> t.rests(0, 1, 1, what));
        }
        for (int what : outside(0, 4)) {
            refused("row what " + what, -2, t -> t.row(0, 4, what));
        }
        for (int what : outside(0, 6)) {
            refused("puller what " + what, -1, t -> t.puller(0, what));
        }
        for (int what : outside(0, 13)) {
            refused("count " + what, -1, t -> t.count(what));
        }
    }

    private void byHeaves() {
        for (int what = 0; what < 2; what++) {
            int asked = what;
            for (int n : outside(0, 100)) {
                refused("ahead " + n, -1, t -> t.ahead(0, n, asked));
            }
            for (int n : outside(1, 40)) {
                refused("trade " + n, -2, t -> t.trade(n, asked));
                refused("out " + n, -2, t -> t.out(n, asked));
            }
            for (int n : outside(1, 20)) {
                refused("rests " + n, -1, t -> t.rests(0, 1, n, asked));
            }
            for (int n : outside(1, 4)) {
                refused("row " + n, -2, t -> t.row(0, n, asked));
            }
        }
    }

    private void ofPullers() {
        for (int who : nobody()) {
            refused("puller " + who, -1, t -> t.puller(who, 0));
            refused("ahead of " + who, -1, t -> t.ahead(who, 1, 1));
            refused("row of " + who, -2, t -> t.row(who, 1, 0));
            refused("row of " + who + ", more than there are", -2, t -> t.row(who, 1, 2));
            refused("strengths of " + who, -1, t -> t.strengths(who, 0));
            refused("winds of " + who, -1, t -> t.winds(who, 0));
            refused("rests of " + who, -1, t -> t.rests(who, 0, 1, 0));
            refused("rests of 0 and " + who, -1, t -> t.rests(0, who, 1, 0));
            refused("pence of " + who, -1, t -> t.pence(1, who));
        }
        for (int who = 0; who < 8; who++) {
            int one = who;
            refused("rests of one alone " + who, -1, t -> t.rests(one, one, 1, 0));
            for (int much : outside(0, 9999)) {
                refused("pence " + much, -1, t -> t.pence(much, one));
            }
        }
    }

    private void notes() {
        for (int n : outside(-1, 60)) {
            refused("note " + n, -2, t -> t.note(n, 100));
        }
        for (int ribbon : outside(0, 200)) {
            refused("note of " + ribbon, -2, t -> t.note(0, ribbon));
            refused("note 60 of " + ribbon, -2, t -> t.note(60, ribbon));
        }
    }

    private void rain() {
        for (int what = 0; what < 2; what++) {
            int asked = what;
            for (int m : outside(1, 10)) {
                refused("rain " + m + " times", -1, t -> t.rain(m, 1, 0, asked));
            }
            for (int n : outside(1, 60)) {
                refused("rain " + n + " heaves", -1, t -> t.rain(1, n, 0, asked));
            }
            for (int p : outside(0, 100)) {
                refused("rain below " + p, -1, t -> t.rain(1, 1, p, asked));
            }
        }
        refused("seed -1", -1, t -> t.seed(-1));
        refused("seed far", -1, t -> t.seed(MIN));
    }

    private void images() {
        for (int k : outside(0, 3)) {
            refused("image " + k, -1, t -> t.image(k));
            refused("back " + k, -1, t -> t.back(k));
        }
        for (int k = 0; k < 4; k++) {
            int which = k;
            if (make.get().back(k) == -1) {
                refused("back to " + k + ", never made", -1, t -> t.back(which));
            }
        }
    }

    private void leaves(String call, ToIntFunction<TugRope> made) {
        Twins.leaves(check, state + ": " + call, make, made);
    }

    private void asked() {
        for (int what = 0; what < 2; what++) {
            int asked = what;
            leaves("fair", t -> t.fair(asked));
            leaves("fewest", t -> t.fewest(asked));
            leaves("ahead", t -> t.ahead(0, 100, asked));
            leaves("over", t -> t.over(asked));
            leaves("row", t -> t.row(0, 4, asked));
            leaves("trade", t -> t.trade(40, asked));
            leaves("out", t -> t.out(40, asked));
            leaves("strengths", t -> t.strengths(0, asked));
            leaves("winds", t -> t.winds(0, asked));
            leaves("rests", t -> t.rests(0, 1, 20, asked));
            leaves("alike", t -> t.alike(asked));
            leaves("ruled", t -> t.ruled(asked));
            leaves("look", t -> t.look(asked));
            leaves("rain", t -> t.rain(10, 60, 50, asked));
        }
        leaves("swings", t -> t.swings(0));
        leaves("shares", t -> t.shares(0));
        leaves("needed", TugRope::needed);
        leaves("pence", t -> t.pence(9999, 0));
        leaves("ribbon", TugRope::ribbon);
    }

    /** With arguments that are all as told, but no ROPE. */
    private static void withoutRope() {
        for (String state : new String[] {"nothing told", "a tape alone"}) {
            RefusalTest test = new RefusalTest(state);
            test.refused("ribbon", -1, TugRope::ribbon);
            test.refused("heave", -1, TugRope::heave);
            test.refused("set", -1, t -> t.set(101));
            test.refused("set 0", -1, t -> t.set(100));
            test.refused("undo", -1, TugRope::undo);
            test.refused("needed", -1, TugRope::needed);
            test.refused("fair 0", -1, t -> t.fair(0));
            test.refused("fair 1", -1, t -> t.fair(1));
            test.refused("fewest 0", -1, t -> t.fewest(0));
            test.refused("fewest 1", -1, t -> t.fewest(1));
            for (int what = 0; what < 2; what++) {
                test.askedWithoutRope(what);
            }
            test.refused("note", -2, t -> t.note(0, 100));
            test.refused("back", -1, t -> t.back(0));
        }
    }

    private void askedWithoutRope(int what) {
        refused("ahead", -1, t -> t.ahead(0, 0, what));
        refused("over", -1, t -> t.over(what));
        refused("row", -2, t -> t.row(0, 1, what));
        refused("trade", -2, t -> t.trade(1, what));
        refused("out", -2, t -> t.out(1, what));
        refused("strengths", -1, t -> t.strengths(0, what));
        refused("winds", -1, t -> t.winds(0, what));
        refused("rests", -1, t -> t.rests(0, 1, 1, what));
        refused("alike", -1, t -> t.alike(what));
        refused("ruled", -3, t -> t.ruled(what));
        refused("look", -1, t -> t.look(what));
        refused("rain", -1, t -> t.rain(1, 1, 0, what));
        refused("pence", -1, t -> t.pence(what, 0));
        refused("ahead who stands", -1, t -> t.ahead(0, 0, 2));
    }

    private static void whenFull() {
        RefusalTest test = new RefusalTest("full");
        test.refused("a tape of 400 bytes", -1, t -> t.feed(0, 0, 0, 0, 0));
        test.refused("six rules", -1, TugRope::rule);
        test.refused("ten notes", -2, t -> t.note(0, 100));
        Supplier<TugRope> almost = () -> {
            TugRope t = States.full();
            t.end(381);
            return t;
        };
        Twins.leaves(check, "a tape of 381 bytes", almost, t -> t.feed(1, 2, 3, 4, 5), -1);
        Supplier<TugRope> nextRule = () -> {
            TugRope t = States.full();
            Check.tell(t, "pull 1");
            return t;
        };
        Twins.leaves(check, "a seventh rule", nextRule, TugRope::rule, -1);
    }

    private static void whenNothingCanBe() {
        for (String state : new String[] {"nothing told", "no pullers"}) {
            new RefusalTest(state).refused("undo", -1, TugRope::undo);
        }
        Supplier<TugRope> undone = () -> {
            TugRope t = States.full();
            for (int i = 0; i < 20; i++) {
                t.undo();
            }
            return t;
        };
        Twins.leaves(check, "a 21st undo", undone, TugRope::undo, -1);
        Supplier<TugRope> goneBack = () -> {
            TugRope t = States.busy();
            t.back(0);
            return t;
        };
        Twins.leaves(check, "undo behind back", goneBack, TugRope::undo, -1);
        for (int what = 0; what < 2; what++) {
            int asked = what;
            new RefusalTest("no pullers").refused("fewest of nobody", -2, t -> t.fewest(asked));
        }
    }
}
