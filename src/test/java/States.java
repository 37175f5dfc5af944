import java.util.function.Supplier;

/** Objects in the states that the document's sentences name: nothing told yet, and as much as it allows. */
final class States {
    static final String FOUR = "rope 9 2;puller 0 10 6 3;puller 1 8 4 1;puller 0 4 9 9;puller 1 9 5 2;ribbon 9";
    private static final String EIGHT = "rope 60 9;puller 0 40 60 9;puller 1 40 60 9;puller 0 1 0 0;puller 1 1 0 0;"
        + "puller 0 9 20 3;puller 1 8 20 3;puller 0 7 9 1;puller 1 39 50 1;ribbon 118";
    static final String[] NAMES = {"nothing told", "a tape alone", "no pullers", "busy", "full", "over"};

    private States() {
    }

    static Supplier<TugRope> named(String name) {
        switch (name) {
            case "nothing told": return TugRope::new;
            case "a tape alone": return States::tapeAlone;
            case "no pullers": return () -> Check.made("rope 1 0");
            case "busy": return States::busy;
            case "full": return States::full;
            default: return States::over;
        }
    }

    /** Six RULES would leave no place for one: this has two, and none of the four IMAGES. */
    private static TugRope tapeAlone() {
        TugRope t = new TugRope();
        Check.tellRule(t, "pull 3 if wind > 2");
        Check.tellRule(t, "pull 1");
        Check.tell(t, "rope 7 1;puller 1 9 9 9;puller 0 8 7 6;ribbon 4");
        return t;
    }

    static TugRope busy() {
        TugRope t = Check.made(FOUR, "pull 3 if place = 0;pull 1", "pull 2");
        t.seed(99);
        t.note(0, 102);
        t.heave();
        t.image(0);
        t.send(1);
        t.force(1);
        t.heave();
        t.note(1, 101);
        t.image(2);
        t.front(1);
        t.breath(2, 5);
        t.set(104);
        Check.tell(t, "rope 7 1;puller 1 9 9 9;puller 0 8 7 6;ribbon 4");
        return t;
    }

    /** Eight PULLERS, six RULES, ten NOTES, four IMAGES, 20 ACTS, 400 bytes, and x as high as it goes. */
    static TugRope full() {
        TugRope t = Check.made(EIGHT, "pull 1", "pull 3 if place < 2;pull 1", "pull 2 if heave % 2 = side", "pull 0", "pull 3",
            "pull wind / 20");
        for (int i = 0; i < 10; i++) {
            t.note(6 * i, 150 + i);
        }
        t.seed(Integer.MAX_VALUE);
        for (int i = 0; i < 22; i++) {
            act(t, i);
        }
        t.image(3);
        Check.tell(t, "rope 7 1;puller 1 9 9 9;puller 0 8 7 6;ribbon 4" + " ".repeat(353));
        return t;
    }

    private static void act(TugRope t, int i) {
        if (i % 6 == 5) {
            t.image(i / 6);
        }
        switch (i % 4) {
            case 0:
                t.heave();
                break;
            case 1:
                t.set(100 + i);
                break;
            case 2:
                t.send(i % 8);
                break;
            default:
                t.breath(i % 8, 1 + i % 9);
                break;
        }
    }

    static TugRope over() {
        TugRope t = Check.made("rope 4 9;puller 1 16 60 0;puller 0 1 9 0;puller 0 1 9 0", "pull 2 if side = 1");
        t.heave();
        t.heave();
        t.note(0, 108);
        t.image(3);
        return t;
    }
}
