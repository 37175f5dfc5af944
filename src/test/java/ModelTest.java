import java.util.Random;

/** Long drawn runs of calls on a TugRope and on the Model: every answer must be the same. */
public final class ModelTest {
    private static final Check check = new Check();
    private static final String[] WORDS = {"puller", "side", "strong", "wind", "boots", "place", "mates", "ribbon",
        "line", "worked", "heave"};
    private static final String[] SIGNS = {"<", "<=", "=", ">=", ">"};
    private static final String[] JOINS = {" + ", " - ", "*", " / ", "%", "+", " * "};
    private static final String ALL_SIGNS = "0123456789abcdefghijklmnopqrstuvwxyz;[]<>=+-*/% \0~";

    private final Random random;
    private final TugRope rope = new TugRope();
    private final Model model = new Model();
    private final StringBuilder told = new StringBuilder();

    private ModelTest(long seed) {
        random = new Random(seed);
    }

    public static void main(String[] args) {
        int runs = args.length > 0 ? Integer.parseInt(args[0]) : 1200;
        long first = args.length > 1 ? Long.parseLong(args[1]) : 1;
        for (long seed = first; seed < first + runs; seed++) {
            int before = check.wrongSoFar();
            ModelTest test = new ModelTest(seed);
            test.run(seed % 4 == 0);
            if (check.wrongSoFar() > before) {
                System.out.println("  seed " + seed + ":\n" + test.told);
                break;
            }
        }
        check.close("ModelTest");
    }

    private void run(boolean faulty) {
        int calls = 0;
        while (calls < 480) {
            int before = check.wrongSoFar();
            int kind = random.nextInt(100);
            if (calls == 0 && random.nextInt(5) != 0 || kind < (faulty ? 40 : 3)) {
                calls += tell(faulty ? spoilt(ropeText()) : ropeText(), true);
            } else if (kind < (faulty ? 80 : 9)) {
                calls += tell(faulty ? spoilt(ruleText()) : ruleText(), false);
            } else {
                calls += 1;
                call(random.nextInt(37));
            }
            if (check.wrongSoFar() > before) {
                return;
            }
        }
    }

    private int tell(String text, boolean isRope) {
        byte[] all = Check.bytes(text);
        if (random.nextInt(30) != 0) {
            same("end(0)", rope.end(0), model.end(0));
        }
        for (int i = 0; i < all.length; i += 20) {
            int[] five = new int[5];
            for (int k = 0; k < 20; k++) {
                five[k / 4] = five[k / 4] << 8 | (i + k < all.length ? all[i + k] & 255 : 0);
            }
            same("feed", rope.feed(five[0], five[1], five[2], five[3], five[4]),
                model.feed(five[0], five[1], five[2], five[3], five[4]));
        }
        same("end " + all.length, rope.end(all.length), model.end(all.length));
        if (isRope) {
            same("rope " + text, rope.rope(), model.rope());
        } else {
            same("rule " + text, rope.rule(), model.rule());
        }
        return all.length / 20 + 4;
    }

    private void same(String call, int got, int due) {
        told.append("    ").append(call).append(" -> ").append(got).append('\n');
        check.is(call, got, due);
    }

    // ---- texts

    private String blanks() {
        return random.nextInt(6) == 0 ? " ".repeat(random.nextInt(3)) : " ";
    }

    private String ropeText() {
        StringBuilder s = new StringBuilder();
        int line = 1 + random.nextInt(random.nextInt(3) == 0 ? 60 : 20);
        s.append("rope").append(blanks()).append(line).append(' ').append(random.nextInt(10));
        int pullers = random.nextInt(10) == 0 ? 0 : 1 + random.nextInt(8);
        int ribbonAt = random.nextInt(2) == 0 ? random.nextInt(pullers + 1) : -1;
        int strongest = random.nextInt(3) == 0 ? 40 : 12;
        for (int i = 0; i <= pullers; i++) {
            if (i == ribbonAt) {
                s.append(';').append(blanks()).append("ribbon ").append(random.nextInt(2 * line - 1));
            }
            if (i < pullers) {
                s.append(random.nextInt(9) == 0 ? " ; " : ";").append("puller").append(blanks())
                    .append(random.nextInt(2)).append(' ').append(1 + random.nextInt(strongest)).append(' ')
                    .append(random.nextInt(random.nextInt(2) == 0 ? 61 : 12)).append(' ').append(random.nextInt(10));
            }
        }
        return s.toString();
    }

    private String value() {
        if (random.nextInt(3) != 0) {
            return WORDS[random.nextInt(WORDS.length)];
        }
        return String.valueOf(random.nextInt(random.nextInt(12) == 0 ? 100000 : 8));
    }

    private String sum() {
        StringBuilder s = new StringBuilder(value());
        for (int n = random.nextInt(random.nextInt(5) == 0 ? 6 : 3); n > 0; n--) {
            s.append(JOINS[random.nextInt(JOINS.length)]).append(value());
        }
        return s.toString();
    }

    private String test(int deep) {
        StringBuilder s = new StringBuilder(fact(deep));
        for (int n = random.nextInt(3); n > 0; n--) {
            s.append(random.nextBoolean() ? " and " : " or ").append(fact(deep));
        }
        return s.toString();
    }

    private String fact(int deep) {
        int kind = random.nextInt(10);
        if (kind < 2 && deep < 5) {
            return "not " + fact(deep + 1);
        }
        if (kind < 4 && deep < 5) {
            return "[" + blanks() + test(deep + 1) + "]";
        }
        return sum() + blanks() + SIGNS[random.nextInt(5)] + blanks() + sum();
    }

    private String ruleText() {
        StringBuilder s = new StringBuilder();
        int clauses = 1 + random.nextInt(4);
        for (int i = 0; i < clauses; i++) {
            String clause = "pull " + sum() + (random.nextInt(4) == 0 ? "" : " if " + test(0));
            if (s.length() + clause.length() < 390) {
                s.append(i == 0 ? "" : ";").append(clause);
            }
        }
        return s.length() == 0 ? "pull 2" : s.toString();
    }

    private String spoilt(String text) {
        StringBuilder s = new StringBuilder(text);
        for (int n = random.nextInt(3); n > 0 && s.length() > 0; n--) {
            int at = random.nextInt(s.length());
            switch (random.nextInt(5)) {
                case 0: s.setCharAt(at, ALL_SIGNS.charAt(random.nextInt(ALL_SIGNS.length()))); break;
                case 1: s.deleteCharAt(at); break;
                case 2: s.insert(at, ALL_SIGNS.charAt(random.nextInt(ALL_SIGNS.length()))); break;
                case 3: s.setLength(at); break;
                default:
                    String[] more = {";puller 0 1 1 1", " [ [ [ [ [ [", " not not not not not not", ";pull 1", " + 1 + 2 + 3",
                        ";rope 1 1", ";ribbon 0", "123456", " or ", " and ", "]", " if ", "; puller 1 2 3 4; puller 1 2 3 4"};
                    String piece = more[random.nextInt(more.length)];
                    int times = 1 + random.nextInt(random.nextInt(3) == 0 ? 30 : 4);
                    for (int i = 0; i < times && s.length() + piece.length() <= 400; i++) {
                        s.insert(at, piece);
                    }
            }
        }
        if (s.length() > 400) {
            s.setLength(400);
        }
        return s.toString();
    }

    // ---- calls

    private int who() {
        return random.nextInt(20) == 0 ? random.nextInt(12) - 2 : random.nextInt(Math.max(1, model.count(2)));
    }

    private int upTo(int most) {
        switch (random.nextInt(40)) {
            case 0: return -1;
            case 1: return most + 1;
            case 2: return random.nextInt();
            case 3: return most;
            case 4: return 0;
            default: return random.nextInt(most + 1);
        }
    }

    /** A NOTE that is so for some rule or other, most of the time. */
    private void note() {
        int n = random.nextInt(8) == 0 ? upTo(60) : upTo(8);
        int behind = Math.max(0, Math.min(99, n)) + 1;
        int ribbon = random.nextInt(3) == 0 ? upTo(200) : rope.ahead(0, behind, 0);
        same("note " + n + " " + ribbon, rope.note(n, ribbon), model.note(n, ribbon));
    }

    private void call(int which) {
        int a = who();
        int b = who();
        int what = upTo(2);
        switch (which) {
            case 0: same("force " + what, rope.force(what), model.force(what)); break;
            case 1: what = upTo(6); same("puller " + a + " " + what, rope.puller(a, what), model.puller(a, what)); break;
            case 2: same("ribbon", rope.ribbon(), model.ribbon()); break;
            case 3: case 4: case 5: same("heave", rope.heave(), model.heave()); break;
            case 6: same("send " + a, rope.send(a), model.send(a)); break;
            case 7: same("front " + a, rope.front(a), model.front(a)); break;
            case 8: what = upTo(9); same("breath " + a + " " + what, rope.breath(a, what), model.breath(a, what)); break;
            case 9: what = upTo(140); same("set " + what, rope.set(what), model.set(what)); break;
            case 10: same("undo", rope.undo(), model.undo()); break;
            case 11: same("fair " + what, rope.fair(what), model.fair(what)); break;
            case 12: same("swings " + a, rope.swings(a), model.swings(a)); break;
            case 13: same("shares " + a, rope.shares(a), model.shares(a)); break;
            case 14: same("fewest " + what, rope.fewest(what), model.fewest(what)); break;
            case 15: same("needed", rope.needed(), model.needed()); break;
            default: ask(which, a, b, what);
        }
    }

    private void ask(int which, int a, int b, int what) {
        int n;
        switch (which) {
            case 16: n = upTo(100); same("ahead " + a + " " + n + " " + what, rope.ahead(a, n, what), model.ahead(a, n, what)); break;
            case 17: same("over " + what, rope.over(what), model.over(what)); break;
            case 18: n = upTo(4); what = upTo(4); same("row " + a + " " + n + " " + what, rope.row(a, n, what), model.row(a, n, what)); break;
            case 19: n = upTo(40); same("trade " + n + " " + what, rope.trade(n, what), model.trade(n, what)); break;
            case 20: n = upTo(40); same("out " + n + " " + what, rope.out(n, what), model.out(n, what)); break;
            case 21: same("strengths " + a + " " + what, rope.strengths(a, what), model.strengths(a, what)); break;
            case 22: same("winds " + a + " " + what, rope.winds(a, what), model.winds(a, what)); break;
            case 23: n = upTo(20); same("rests " + a + " " + b + " " + n + " " + what, rope.rests(a, b, n, what), model.rests(a, b, n, what)); break;
            case 24: same("alike " + what, rope.alike(what), model.alike(what)); break;
            case 25: n = upTo(9999); same("pence " + n + " " + a, rope.pence(n, a), model.pence(n, a)); break;
            case 26: case 27: note(); break;
            case 28: same("ruled " + what, rope.ruled(what), model.ruled(what)); break;
            case 29: same("look " + what, rope.look(what), model.look(what)); break;
            case 30: n = random.nextInt(); same("seed " + n, rope.seed(n), model.seed(n)); break;
            case 31: rain(what); break;
            case 32: case 33: what = upTo(13); same("count " + what, rope.count(what), model.count(what)); break;
            case 34: what = upTo(3); same("image " + what, rope.image(what), model.image(what)); break;
            case 35: what = upTo(3); same("back " + what, rope.back(what), model.back(what)); break;
            default: same("end " + what, rope.end(what), model.end(what));
        }
    }

    private void rain(int what) {
        int m = upTo(10);
        int n = upTo(60);
        int p = upTo(100);
        same("rain " + m + " " + n + " " + p + " " + what, rope.rain(m, n, p, what), model.rain(m, n, p, what));
    }
}
