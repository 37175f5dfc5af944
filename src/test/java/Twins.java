import java.util.ArrayList;
import java.util.List;
import java.util.function.Supplier;
import java.util.function.ToIntFunction;

/**
 * Two objects made alike, one of which gets a call more: whether anything can tell them apart then.
 * What they tell is asked in parts, each of a new pair, so that no object has more than 512 calls.
 */
final class Twins {
    private static final int PARTS = 5;

    private Twins() {
    }

    /** The call answers as due, and nothing has happened. */
    static void leaves(Check check, String name, Supplier<TugRope> make, ToIntFunction<TugRope> call, int due) {
        for (int part = 0; part < PARTS; part++) {
            TugRope one = make.get();
            TugRope other = make.get();
            check.is(name, call.applyAsInt(other), due);
            check.is(name + ": what happened, part " + part, told(one, part).equals(told(other, part)) ? 0 : 1, 0);
        }
    }

    /** Whatever the call answers, nothing has happened. */
    static void leaves(Check check, String name, Supplier<TugRope> make, ToIntFunction<TugRope> call) {
        leaves(check, name, make, call, call.applyAsInt(make.get()));
    }

    private static List<Integer> told(TugRope t, int part) {
        List<Integer> all = new ArrayList<>();
        switch (part) {
            case 0:
                tellsNow(t, all);
                break;
            case 1:
                tellsAhead(t, all);
                break;
            case 2:
                tellsBackwards(t, all);
                break;
            case 3:
                tellsImages(t, all);
                break;
            default:
                tellsTape(t, all);
                break;
        }
        return all;
    }

    private static void tellsNow(TugRope t, List<Integer> all) {
        all.add(t.ribbon());
        for (int what = 0; what < 14; what++) {
            all.add(t.count(what));
        }
        for (int who = 0; who < 8; who++) {
            for (int what = 0; what < 7; what++) {
                all.add(t.puller(who, what));
            }
        }
    }

    /** Notes, and by which RULES it goes on, are told by what is asked alone. */
    private static void tellsAhead(TugRope t, List<Integer> all) {
        for (int what = 0; what < 2; what++) {
            all.add(t.over(what));
            all.add(t.alike(what));
            all.add(t.ruled(what));
            all.add(t.look(what));
            all.add(t.rain(3, 9, 60, what));
            for (int who = 0; who < 8; who++) {
                all.add(t.strengths(who, what));
                all.add(t.winds(who, what));
                all.add(t.row(who, 2, what));
            }
        }
        for (int n = 0; n < 30; n++) {
            all.add(t.ahead(0, n, 0));
            all.add(t.ahead(0, n, 2));
        }
        for (int rule = -1; rule < 6; rule++) {
            all.add(t.force(rule));
            all.add(t.heave());
            all.add(t.undo());
        }
    }

    private static void tellsBackwards(TugRope t, List<Integer> all) {
        for (int i = 0; i < 21; i++) {
            all.add(t.undo());
            all.add(t.ribbon());
            for (int what = 5; what < 10; what++) {
                all.add(t.count(what));
            }
            for (int who = 0; who < 8; who++) {
                all.add(t.puller(who, i % 2 == 0 ? 2 : 4));
            }
        }
    }

    private static void tellsImages(TugRope t, List<Integer> all) {
        for (int k = 3; k >= 0; k--) {
            all.add(t.back(k));
            tellsNow(t, all);
            all.add(t.ruled(0));
        }
    }

    private static void tellsTape(TugRope t, List<Integer> all) {
        all.add(t.rope());
        tellsNow(t, all);
        all.add(t.back(0));
        all.add(t.rule());
        all.add(t.rope());
        tellsNow(t, all);
    }
}
