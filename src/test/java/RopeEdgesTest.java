/** The edges that the document names of the TAPE and of ROPES, a test for each sentence (promises 1 to 4). */
public final class RopeEdgesTest {
    private static final Check check = new Check();
    private static final String PULLER = ";puller 1 1 0 0";

    public static void main(String[] args) {
        newObjectHasNothing();
        tapeOfFourHundred();
        tapeEndsAtItsEnd();
        highestByteFirst();
        ropeOfFourHundredBytes();
        asManyClausesAsThereCanBe();
        line();
        mud();
        ropeOnceAndFirst();
        side();
        strong();
        wind();
        boots();
        ribbonRange();
        ribbonOnce();
        noPullersToEight();
        firstOfEachSideIsNearest();
        digits();
        wordsGoOn();
        blanks();
        endOfTheText();
        firstFaultAlongTheText();
        ofOnePlaceTheLeast();
        nothingOnTheTape();
        tapeIsEmptyThen();
        placeOfTheOneThereWas();
        faultAndAllStays();
        check.close("RopeEdgesTest");
    }

    private static void good(String text, int pullers) {
        check.is("rope " + text, Check.tellRope(new TugRope(), text), pullers);
    }

    private static void fault(String text, int place, int kind) {
        check.is("rope " + text, Check.tellRope(new TugRope(), text), Check.fault(place, kind));
    }

    /** A text that is good for numbers of a range, and has a FAULT at its mark for those outside. */
    private static void range(String text, int least, int most) {
        int place = text.indexOf('#');
        for (int number : new int[] {least, Math.min(least + 1, most), Math.max(most - 1, least), most}) {
            int answer = Check.tellRope(new TugRope(), text.replace("#", Integer.toString(number)));
            check.is(text + " with " + number, answer >= 0 ? 1 : answer, 1);
        }
        for (int number : new int[] {most + 1, most + 2, 100 * most + 100, 99999}) {
            fault(text.replace("#", Integer.toString(number)), place, 1);
        }
        if (least > 0) {
            fault(text.replace("#", Integer.toString(least - 1)), place, 1);
            fault(text.replace("#", "00000"), place, 1);
        }
        fault(text.replace("#", "-1"), place, 0);
        fault(text.replace("#", "000001"), place, 1);
        fault(text.replace("#", "x"), place, 0);
    }

    private static void newObjectHasNothing() {
        TugRope t = new TugRope();
        int[] counts = {0, 0, 0, 0, -1, 0, 0, 0, 0, 0, 0, 0, 0, 0};
        for (int what = 0; what < counts.length; what++) {
            check.is("count " + what + " of a new object", t.count(what), counts[what]);
        }
        check.is("no ROPE", t.ribbon(), -1);
        check.is("no PULLERS", t.puller(0, 0), -1);
        check.is("no RULES", t.force(0), -2);
        check.is("none IN FORCE", t.force(-1), -1);
        check.is("no IMAGE", t.back(0), -1);
        check.is("x is 0 at first", t.seed(0), 0);
    }

    private static void tapeOfFourHundred() {
        TugRope t = new TugRope();
        for (int i = 1; i <= 20; i++) {
            check.is("feed " + i, t.feed(0, 0, 0, 0, 0), 20 * i);
        }
        check.is("more than 400", t.feed(0, 0, 0, 0, 0), -1);
        check.is("none comes", t.count(13), 400);
        for (int bytes = 399; bytes > 380; bytes--) {
            t.end(bytes);
            check.is("more than 400 from " + bytes, t.feed(0, 0, 0, 0, 0), -1);
            check.is("none comes", t.count(13), bytes);
        }
        t.end(380);
        check.is("just 400", t.feed(0, 0, 0, 0, 0), 400);
        check.is("then none", t.feed(0, 0, 0, 0, 0), -1);
        t.end(0);
        check.is("20 of none", t.feed(0, 0, 0, 0, 0), 20);
    }

    private static void tapeEndsAtItsEnd() {
        TugRope t = new TugRope();
        check.is("none of none", t.end(0), 0);
        check.is("one of none", t.end(1), -1);
        check.is("below 0", t.end(-1), -1);
        t.feed(0, 0, 0, 0, 0);
        check.is("one more than there are", t.end(21), -1);
        check.is("below 0", t.end(-1), -1);
        check.is("nothing happens", t.count(13), 20);
        check.is("all there are", t.end(20), 20);
        check.is("all but one", t.end(19), 19);
        check.is("what was cut is gone", t.end(20), -1);
        check.is("none", t.end(0), 0);
        check.is("empty", t.count(13), 0);
        check.is("below 0", t.end(-1), -1);
    }

    private static void highestByteFirst() {
        TugRope t = new TugRope();
        // "rope" " 60 " "9;pu" "ller" " 1 4", then "0 60" " 9;r" "ibbo" "n 11" "8" with bytes 255 behind
        t.feed(0x726f7065, 0x20363020, 0x393b7075, 0x6c6c6572, 0x20312034);
        t.feed(0x30203630, 0x20393b72, 0x6962626f, 0x6e203131, 0x38ffffff);
        t.end(37);
        check.is("rope", t.rope(), 1);
        int[] puller = {1, 40, 60, 9, 0, 1, 0};
        for (int what = 0; what < puller.length; what++) {
            check.is("puller " + what, t.puller(0, what), puller[what]);
        }
        check.is("ribbon", t.ribbon(), 159);
        // bytes above 127, which are no negative numbers
        t.feed(0x80ffffff, -1, -1, -1, -1);
        check.is("byte 128", t.rope(), Check.fault(0, 0));
        t.feed(0x20202020, 0x202020e1, -1, -1, -1);
        check.is("byte 225", t.rope(), Check.fault(7, 0));
    }

    private static void ropeOfFourHundredBytes() {
        good("rope 1 0" + " ".repeat(383) + ";ribbon 0", 0);
        good("rope 1 0;" + " ".repeat(376) + "puller 1 1 0 00", 1);
        TugRope t = Check.made("rope 60 0;" + " ".repeat(380) + "ribbon 118");
        check.is("the last byte counts", t.ribbon(), 159);
        fault("rope 1 0" + " ".repeat(384) + ";ribbon ", 400, 0);
        fault("rope 1 0" + " ".repeat(391) + "x", 399, 0);
    }

    /** rope, eight PULLERS and ribbon are ten: no text comes to 40 CLAUSES without another FAULT 4. */
    private static void asManyClausesAsThereCanBe() {
        String ten = "rope 1 0" + PULLER.repeat(8) + ";ribbon 0";
        good(ten, 8);
        fault(ten + ";ribbon 0", ten.length() + 1, 4);
        fault(ten + PULLER, ten.length() + 1, 4);
        fault(ten + ";rope 1 0", ten.length() + 1, 4);
        fault(ten + ";", ten.length() + 1, 0);
        fault(ten + ";pull", ten.length() + 1, 0);
        good("rope 1 0;ribbon 0" + PULLER.repeat(8), 8);
        good("rope 1 0" + PULLER.repeat(4) + ";ribbon 0" + PULLER.repeat(4), 8);
        fault("rope 1 0;" + "ribbon 0;".repeat(40), 18, 4);
        fault("rope 1 0;".repeat(41), 9, 4);
    }

    private static void line() {
        range("rope # 0", 1, 60);
        check.is("LINE 1", Check.made("rope 1 0").count(0), 1);
        check.is("LINE 60", Check.made("rope 60 0").count(0), 60);
    }

    private static void mud() {
        range("rope 9 #", 0, 9);
        check.is("MUD 0", Check.made("rope 1 0").count(1), 0);
        check.is("MUD 9", Check.made("rope 1 9").count(1), 9);
    }

    private static void ropeOnceAndFirst() {
        fault("rope 1 0;rope 1 0", 9, 4);
        fault("rope 1 0;ribbon 0;rope 1 0", 18, 4);
        fault("rope 1 0" + PULLER + ";  rope 1 0", 26, 4);
        fault("rope 1 0;rope", 9, 4);
        fault("rope 1 0;rope x", 9, 4);
        fault("puller 0 1 0 0;rope 1 0", 0, 4);
        fault("  puller 0 1 0 0;rope 1 0", 2, 4);
        fault("ribbon 0;rope 1 0", 0, 4);
        fault("puller", 0, 4);
        fault("ribbon", 0, 4);
    }

    private static void side() {
        range("rope 9 0;puller # 1 0 0", 0, 1);
        check.is("SIDE 0", Check.made("rope 9 0;puller 0 1 0 0").puller(0, 0), 0);
        check.is("SIDE 1", Check.made("rope 9 0;puller 1 1 0 0").puller(0, 0), 1);
    }

    private static void strong() {
        range("rope 9 0;puller 1 # 0 0", 1, 40);
        check.is("STRONG 1", Check.made("rope 9 0;puller 0 1 0 0").puller(0, 1), 1);
        check.is("STRONG 40", Check.made("rope 9 0;puller 1 40 0 0").puller(0, 1), 40);
    }

    private static void wind() {
        range("rope 9 0;puller 1 1 # 0", 0, 60);
        check.is("WIND 0", Check.made("rope 9 0;puller 0 1 0 0").puller(0, 2), 0);
        check.is("WIND 60", Check.made("rope 9 0;puller 1 1 60 0").puller(0, 2), 60);
    }

    private static void boots() {
        range("rope 9 0;puller 1 1 0 #", 0, 9);
        check.is("BOOTS 0", Check.made("rope 9 0;puller 0 1 0 0").puller(0, 3), 0);
        check.is("BOOTS 9", Check.made("rope 9 0;puller 1 1 0 9").puller(0, 3), 9);
        // the eighth has the same ranges
        range("rope 9 0" + PULLER.repeat(7) + ";puller # 1 0 0", 0, 1);
        range("rope 9 0" + PULLER.repeat(7) + ";puller 1 # 0 0", 1, 40);
        range("rope 9 0" + PULLER.repeat(7) + ";puller 1 1 # 0", 0, 60);
        range("rope 9 0" + PULLER.repeat(7) + ";puller 1 1 0 #", 0, 9);
    }

    private static void ribbonRange() {
        range("rope 1 0;ribbon #", 0, 0);
        range("rope 2 0;ribbon #", 0, 2);
        range("rope 9 0;ribbon #", 0, 16);
        range("rope 60 0;ribbon #", 0, 118);
        check.is("LINE 1: at 0", Check.made("rope 1 0;ribbon 0").ribbon(), 100);
        check.is("LINE 2: 0 is -1", Check.made("rope 2 0;ribbon 0").ribbon(), 99);
        check.is("LINE 2: 2 is 1", Check.made("rope 2 0;ribbon 2").ribbon(), 101);
        check.is("LINE 60: 0 is -59", Check.made("rope 60 0;ribbon 0").ribbon(), 41);
        check.is("LINE 60: 118 is 59", Check.made("rope 60 0;ribbon 118").ribbon(), 159);
        check.is("without it at 0", Check.made("rope 60 0").ribbon(), 100);
        check.is("not over there", Check.made("rope 60 0;ribbon 118").count(8), 0);
        check.is("not over there", Check.made("rope 60 0;ribbon 0").count(8), 0);
    }

    private static void ribbonOnce() {
        fault("rope 9 0;ribbon 8;ribbon 8", 18, 4);
        fault("rope 9 0;ribbon 8" + PULLER + "; ribbon 8", 34, 4);
        fault("rope 9 0;ribbon 8;ribbon", 18, 4);
        fault("rope 9 0;ribbon 8;ribbon 99", 18, 4);
    }

    private static void noPullersToEight() {
        for (int n = 0; n <= 8; n++) {
            TugRope t = new TugRope();
            check.is("pullers " + n, Check.tellRope(t, "rope 1 0" + PULLER.repeat(n)), n);
            check.is("count", t.count(2), n);
            check.is("all stand", t.count(7), (1 << n) - 1);
            check.is("the last", t.puller(n - 1, 1), n == 0 ? -1 : 1);
            check.is("behind the last", t.puller(n, 1), -1);
        }
        String eight = "rope 1 0" + PULLER.repeat(8);
        fault(eight + PULLER, eight.length() + 1, 4);
        fault(eight + "; puller", eight.length() + 2, 4);
        fault(eight + ";puller 7", eight.length() + 1, 4);
    }

    private static void firstOfEachSideIsNearest() {
        TugRope t = Check.made("rope 1 0;puller 1 1 0 0;puller 1 2 0 0;puller 0 3 0 0;puller 1 4 0 0;puller 0 5 0 0");
        int[] places = {0, 1, 0, 2, 1};
        for (int who = 0; who < places.length; who++) {
            check.is("place of " + who, t.puller(who, 4), places[who]);
            check.is("in the order told", t.puller(who, 1), who + 1);
        }
        TugRope eight = Check.made("rope 1 0" + PULLER.repeat(8));
        check.is("place of the last of eight", eight.puller(7, 4), 7);
        check.is("none on SIDE 0", eight.count(6), 0);
        check.is("all on SIDE 0", Check.made("rope 1 0" + ";puller 0 1 0 0".repeat(8)).count(6), 255);
    }

    private static void digits() {
        good("rope 1 0", 0);
        good("rope 00001 00000", 0);
        good("rope 00060 00009;ribbon 00118;puller 00001 00040 00060 00009", 1);
        fault("rope 000001 0", 5, 1);
        fault("rope 1 000000", 7, 1);
        fault("rope 60 0;ribbon 000118", 17, 1);
        fault("rope 99999999999999999999 0", 5, 1);
        fault("rope 4294967297 0", 5, 1);
        // as far as digits go on
        fault("rope 609", 5, 1);
        fault("rope 60;9", 7, 0);
        fault("rope 1 0 0", 9, 0);
        fault("rope 1 0ribbon 0", 8, 0);
    }

    private static void wordsGoOn() {
        fault("ropes 1 0", 0, 0);
        fault("rop 1 0", 0, 0);
        fault("rop e 1 0", 0, 0);
        fault("roperibbon 1 0", 0, 0);
        fault("rope 1 0;pullers 1 1 0 0", 9, 0);
        fault("rope 1 0;pull 1 1 0 0", 9, 0);
        fault("rope 1 0;pulle 1 1 0 0", 9, 0);
        fault("rope 1 0;ribbons 0", 9, 0);
        fault("rope 1 0;ribbo 0", 9, 0);
        fault("rope 1 0;Ribbon 0", 9, 0);
        fault("rope 1 0;riBbon 0", 9, 0);
        fault("ROPE 1 0", 0, 0);
        // the bytes next to the small letters and to the digits
        fault("`rope 1 0", 0, 0);
        fault("{rope 1 0", 0, 0);
        fault("rope{1 0", 4, 0);
        fault("rope`1 0", 4, 0);
        fault("rope 1/0", 6, 0);
        fault("rope 1:0", 6, 0);
        for (String word : new String[] {"side", "strong", "wind", "boots", "place", "mates", "line", "worked", "heave",
            "if", "and", "or", "not", "pull"}) {
            fault(word, 0, 0);
            fault("rope 1 0;" + word + " 1", 9, 0);
        }
    }

    private static void blanks() {
        good("rope1 0", 0);
        good("   rope   1   0   ;   puller0   1   0   0   ;ribbon0   ", 1);
        fault("rope\t1 0", 4, 0);
        fault("rope 1\n0", 6, 0);
        fault("rope 1 0\0", 8, 0);
        fault("rope 1\u00a00", 6, 0);
        fault("rope 1\u001f0", 6, 0);
        fault("rope 1!0", 6, 0);
        fault("rope 10", 7, 0);
    }

    private static void endOfTheText() {
        fault("rope", 4, 0);
        fault("rope   ", 7, 0);
        fault("rope 1", 6, 0);
        fault("rope 1 ", 7, 0);
        fault("rope 1 0;", 9, 0);
        fault("rope 1 0;  ", 11, 0);
        fault("rope 1 0;puller", 15, 0);
        fault("rope 1 0;puller 0", 17, 0);
        fault("rope 1 0;puller 0 1", 19, 0);
        fault("rope 1 0;puller 0 1 0", 21, 0);
        fault("rope 1 0;ribbon", 15, 0);
        fault("rope 1 0" + " ".repeat(391) + ";", 400, 0);
        // instead of the end
        fault("rope;1 0", 4, 0);
        fault("rope 1;", 6, 0);
        fault("rope 1 0;;", 9, 0);
        fault("rope 1 0;puller 0 1 0;", 21, 0);
        fault(";rope 1 0", 0, 0);
    }

    private static void firstFaultAlongTheText() {
        fault("rope 0 10", 5, 1);
        fault("rope 0", 5, 1);
        fault("rope 61 0;rope 1 0", 5, 1);
        fault("rope 1 10;x", 7, 1);
        fault("x;rope 0 0", 0, 0);
        fault("rope 1 0;ribbon 1;ribbon 0", 16, 1);
        fault("rope 1 0;puller 2 0 61 10", 16, 1);
        fault("rope 1 0;puller 1 0 61 10", 18, 1);
        fault("rope 1 0;puller 1 1 61 10", 20, 1);
        fault("rope 1 0;puller 1 1 60 10", 23, 1);
        fault("rope 1 0;puller 2" + PULLER.repeat(9), 16, 1);
    }

    private static void ofOnePlaceTheLeast() {
        fault("rope 1 0 1234567", 9, 0);
        fault("1234567", 0, 0);
        fault("rope 1 0;1234567", 9, 0);
        String eight = "rope 1 0" + PULLER.repeat(8);
        fault(eight + ";pullers", eight.length() + 1, 0);
        fault(eight + ";123456", eight.length() + 1, 0);
    }

    private static void nothingOnTheTape() {
        check.is("empty", new TugRope().rope(), -3);
        TugRope t = Check.made("rope 1 0");
        check.is("empty again", t.rope(), -3);
        check.is("all stays", t.count(0), 1);
        fault(" ", 1, 0);
        fault(" ".repeat(400), 400, 0);
        fault(";", 0, 0);
    }

    private static void tapeIsEmptyThen() {
        TugRope t = new TugRope();
        Check.tell(t, "rope 1 0");
        t.rope();
        check.is("empty behind a ROPE", t.count(13), 0);
        check.is("and 20 bytes come to be 20", t.feed(0, 0, 0, 0, 0), 20);
        t.rope();
        check.is("empty behind a FAULT", t.count(13), 0);
        Check.tell(t, "rope 1 0" + " ".repeat(392));
        check.is("a full one", t.count(13), 400);
        t.rope();
        check.is("empty behind it", t.count(13), 0);
    }

    private static void placeOfTheOneThereWas() {
        TugRope t = States.full();
        int inForce = t.count(4);
        check.is("rope", t.rope(), 2);
        int[] counts = {7, 1, 2, 6, inForce, 0, 0b10, 0b11, 0, 0, 0, 0, Integer.MAX_VALUE, 0};
        for (int what = 0; what < counts.length; what++) {
            check.is("then count " + what, t.count(what), counts[what]);
        }
        check.is("ribbon", t.ribbon(), 98);
        check.is("nothing to be UNDONE", t.undo(), -1);
        check.is("no third PULLER", t.puller(2, 0), -1);
        check.is("no NOTES", t.strengths(0, 0), 40);
        check.is("an IMAGE stays", t.back(3) > 0 ? 1 : 0, 1);
        check.is("with what was told then", t.count(2), 8);
        TugRope u = States.over();
        Check.tellRope(u, "rope 4 9;puller 1 16 60 0");
        check.is("all STAND", u.count(7), 1);
        check.is("not OVER", u.count(8), 0);
        check.is("nobody has WORKED", u.puller(0, 6), 0);
        check.is("place", u.puller(0, 4), 0);
        check.is("ribbon not told", u.ribbon(), 100);
    }

    private static void faultAndAllStays() {
        String[] texts = {"", "rope", "rope 5 5;puller 0 1 2 3;ribbon 99", "rope 61 0", "rope 5 5;puller 0 1 2 3;"};
        for (String text : texts) {
            for (String state : States.NAMES) {
                // the TAPE is empty then, so both have an empty one, and the others' stories tell the rest
                Twins.leaves(check, "fault of " + text + ", " + state, () -> emptied(state), t -> untold(t, text), 0);
            }
        }
    }

    private static TugRope emptied(String state) {
        TugRope t = States.named(state).get();
        t.end(0);
        return t;
    }

    private static int untold(TugRope t, String text) {
        return Check.tellRope(t, text) < -2 ? 0 : 1;
    }
}
