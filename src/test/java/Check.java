import java.nio.charset.StandardCharsets;

/** What the tests share: telling texts to a TugRope, and counting answers that are not as due. */
final class Check {
    private int asked = 0;
    private int wrong = 0;

    void is(String call, long got, long due) {
        asked++;
        if (got != due) {
            wrong++;
            if (wrong <= 40) {
                System.out.println("  " + call + " answered " + got + ", due is " + due);
            }
        }
    }

    int wrongSoFar() {
        return wrong;
    }

    /** Prints what came out; ends the program with 1 if anything was wrong. */
    void close(String name) {
        System.out.println(name + ": " + asked + " answers, " + wrong + " not as due");
        if (wrong != 0) {
            System.exit(1);
        }
    }

    static byte[] bytes(String text) {
        return text.getBytes(StandardCharsets.ISO_8859_1);
    }

    /** Feeds the five numbers at i of a text, 0 behind its end. */
    static int feed(TugRope rope, byte[] text, int i) {
        int[] five = new int[5];
        for (int k = 0; k < 20; k++) {
            int value = i + k < text.length ? text[i + k] & 255 : 0;
            five[k / 4] = five[k / 4] << 8 | value;
        }
        return rope.feed(five[0], five[1], five[2], five[3], five[4]);
    }

    /** Puts a text on the TAPE in place of what was there. */
    static void tell(TugRope rope, String text) {
        rope.end(0);
        byte[] all = bytes(text);
        for (int i = 0; i < all.length; i += 20) {
            feed(rope, all, i);
        }
        rope.end(all.length);
    }

    static int tellRope(TugRope rope, String text) {
        tell(rope, text);
        return rope.rope();
    }

    static int tellRule(TugRope rope, String text) {
        tell(rope, text);
        return rope.rule();
    }

    /** A new object with that ROPE and these RULES, of which the first is IN FORCE. */
    static TugRope made(String text, String... rules) {
        TugRope rope = new TugRope();
        tellRope(rope, text);
        for (String rule : rules) {
            tellRule(rope, rule);
        }
        if (rules.length > 0) {
            rope.force(0);
        }
        return rope;
    }

    /** What rope() and rule() answer for a FAULT. */
    static int fault(int place, int kind) {
        return -2 - (1 + 8 * place + kind);
    }
}
