/** The bounds of the TAPE, of telling a text, and of what is counted. */
public final class BoundTapeTest {
    private static final int NONE = LabelRoom.NONE;
    private static final int LEAST = Integer.MIN_VALUE;
    private static final int MOST = Integer.MAX_VALUE;

    public static void main(String[] args) {
        newObject();
        feeding();
        ending();
        sorts();
        tellingRefused();
        anotherCollection();
        lawsThatHold();
        counts();
        Check.finish("BoundTapeTest");
    }

    private static void newObject() {
        Check.sentence("LabelRoom(): No COLLECTION");
        LabelRoom x = new LabelRoom();
        for (int what = 0; what <= 13; what++) {
            Check.due("count(" + what + ")", x.count(what), what == 5 ? NONE : 0);
        }
        Check.due("a FAULT of an empty TAPE", x.fault(0), 0);
        int[] none = {x.right(), x.image(), x.back(), x.undo(), x.log(0, 0), x.reading(0, 0, 0), x.text(0)};
        for (int answer : none) {
            Check.due("nothing is there", answer, NONE);
        }
    }

    private static void feeding() {
        Check.sentence("feed: Twenty bytes more come to the TAPE (of each number the highest first; bytes of 0 are left out)");
        LabelRoom x = new LabelRoom();
        Check.due("none", x.feed(0, 0, 0, 0, 0), 0);
        Check.due("one, the lowest", x.feed(0, 0, 0, 0, 'a'), 1);
        Check.due("sound", x.fault(2), NONE);
        Check.due("one, the highest", x.feed('-' << 24, 0, 0, 0, 0), 2);
        Check.due("too early", x.fault(2), 2);
        Check.due("twenty", x.feed(LEAST | 0x808080, -1, MOST, -1, 0x01010101), 22);
        x.end(0);
        // abc, then -d, then >9: with zeros at all four places
        Check.due("with zeros", x.feed('a', 'b' << 8, 'c' << 16, '-' << 24 | 'd', '>' << 16 | '9'), 7);
        Check.due("reading", x.text(2), 0);
        int[] words = {x.reading(0, 0, 1), x.reading(0, 1, 1), x.reading(0, 2, 1), x.reading(0, 3, 0),
            x.reading(0, 3, 1), x.reading(0, 4, 0), x.reading(0, 4, 1), x.reading(0, 5, 0)};
        Check.dueRow("in that order", words, 0, 1, 2, 1, 3, 2, 9, NONE);
        Check.sentence("feed: NONE: more than 240");
        for (int i = 1; i <= 11; i++) {
            Check.due("feed", x.feed(-1, -1, -1, -1, -1), 20 * i);
        }
        Check.due("19", x.feed(-1, -1, -1, -1, 0x00010101), 239);
        int[] two = {x.feed(0x00010001, 0, 0, 0, 0), x.feed(1, 1, 0, 0, 0), x.feed(1, 0, 0, 0, 1), x.feed(-1, -1, -1, -1, -1)};
        Check.dueRow("two and more are too many", two, NONE, NONE, NONE, NONE);
        Check.due("as it was", x.count(4), 239);
        Check.due("none", x.feed(0, 0, 0, 0, 0), 239);
        Check.due("one", x.feed(0, 0, 1, 0, 0), 240);
        int[] full = {x.feed(0, 0, 0, 0, 1), x.feed(LEAST, 0, 0, 0, 0), x.feed(0, 0, 0, 0, 0), x.count(4)};
        Check.dueRow("full", full, NONE, NONE, 240, 240);
    }

    private static void ending() {
        Check.sentence("end: The TAPE has its first n bytes alone. False: n");
        LabelRoom x = new LabelRoom();
        Check.due("end(0) of none", x.end(0), true);
        Check.due("end(1) of none", x.end(1), false);
        Check.tape(x, "abcdefa");
        int[] wrong = {8, -1, LEAST, MOST, 240, 241};
        for (int n : wrong) {
            Check.due("end(" + n + ")", x.end(n), false);
            Check.due("as it was", x.count(4), 7);
        }
        Check.due("end(7)", x.end(7), true);
        int[] all = {x.count(4), x.fault(2)};
        Check.dueRow("all of it", all, 7, 6);
        Check.due("end(6)", x.end(6), true);
        int[] six = {x.count(4), x.fault(2)};
        Check.dueRow("six", six, 6, NONE);
        Check.due("end(7) now", x.end(7), false);
        Check.due("end(1)", x.end(1), true);
        Check.due("end(0)", x.end(0), true);
        int[] none = {x.count(4), x.fault(2)};
        Check.dueRow("none", none, 0, 0);
        Check.due("end(1) now", x.end(1), false);
        Check.tape(x, "-".repeat(240));
        Check.due("end(241)", x.end(241), false);
        Check.due("end(240)", x.end(240), true);
        Check.due("240", x.count(4), 240);
    }

    private static void sorts() {
        Check.sentence("fault: a COLLECTION (0), a LAW (1), a READING (2). NONE: none. -2: no such sort");
        LabelRoom x = new LabelRoom();
        String[] texts = {"t:;c:a", "y:1", "a"};
        int[][] faults = {{NONE, 0, 0}, {0, NONE, 0}, {0, 0, NONE}};
        for (int told = 0; told < 3; told++) {
            Check.tape(x, texts[told]);
            int[] got = {x.fault(0), x.fault(1), x.fault(2), x.fault(3), x.fault(-1), x.fault(-2), x.fault(LEAST), x.fault(MOST)};
            Check.dueRow(texts[told], got, faults[told][0], faults[told][1], faults[told][2], -2, -2, -2, -2, -2);
            int[] refused = {x.text(3), x.text(-1), x.text(LEAST), x.text(MOST), x.text((told + 1) % 3), x.text((told + 2) % 3)};
            Check.dueRow("text", refused, NONE, NONE, NONE, NONE, NONE, NONE);
            Check.due("the TAPE is kept", x.count(4), texts[told].length());
        }
        int[] nothing = {x.count(0), x.count(1), x.count(2), x.count(3)};
        Check.dueRow("nothing was told", nothing, 0, 0, 0, 0);
    }

    private static void tellingRefused() {
        Check.sentence("text: NONE: a FAULT, no such sort, there are four");
        LabelRoom x = new LabelRoom();
        for (int i = 0; i < 4; i++) {
            Check.tell(x, 1, "y:" + i);
            Check.tell(x, 2, "a");
        }
        Check.tape(x, "y:1");
        int[] law = {x.text(1), x.count(4), x.fault(1), x.count(2)};
        Check.dueRow("a fifth LAW", law, NONE, 3, NONE, 4);
        Check.tape(x, "b");
        int[] reading = {x.text(2), x.count(4), x.fault(2), x.count(3)};
        Check.dueRow("a fifth READING", reading, NONE, 1, NONE, 4);
        Check.tape(x, "t:;c:a;c:a");
        int[] collection = {x.text(0), x.count(4), x.count(2), x.count(3)};
        Check.dueRow("a COLLECTION", collection, 2, 0, 4, 4);
        Check.due("text of nothing", x.text(0), NONE);
        Check.due("the COLLECTION is kept", x.count(0), 2);
    }

    private static void anotherCollection() {
        Check.sentence("the COLLECTION (DAY 0; all that was of another one is gone but LAWS, which holds, READINGS, CLEANER)");
        LabelRoom x = Check.room("sl9m1;tp9:abcdef;t:;t:;t:;t:;t:;t:;t:;ci9f9t7:abcdef;ct6:a;ct5:a;ct4:a;ct3:a;ct2:a");
        x.law(Check.tell(x, 1, "y:1"));
        Check.tell(x, 2, "a");
        x.cleaner(99);
        x.days(60);
        x.stood(0, 0, true);
        x.image();
        LabelRoom fresh = Check.room("t:;ci3:-b");
        fresh.law(Check.tell(fresh, 1, "y:1"));
        Check.tell(fresh, 2, "a");
        fresh.cleaner(99);
        Check.due("how many CARDS", Check.tell(x, 0, "t:;ci3:-b"), 1);
        Check.due("all that shows", Sight.all(x), Sight.all(fresh));
        Check.due("acts", Sight.acts(x), Sight.acts(fresh));
        Check.due("image", Sight.image(x), Sight.image(fresh));
        Check.due("decades", x.decades(60, 1L), fresh.decades(60, 1L));
        Check.due("then", Sight.all(x), Sight.all(fresh));
        Check.sentence("text: how many CARDS; a LAW, a READING: its number");
        Check.due("six CARDS", Check.tell(x, 0, "c:a;c:a;c:a;c:a;c:a;c:a;t:"), 6);
        Check.due("a second LAW", Check.tell(x, 1, "y:1"), 1);
        Check.due("a second READING", Check.tell(x, 2, "a"), 1);
    }

    private static void lawsThatHold() {
        Check.sentence("law: The LAW that holds (NONE: none). False: no such one");
        LabelRoom x = new LabelRoom();
        Check.due("law(0) without any", x.law(0), false);
        Check.due("law(NONE) without any", x.law(NONE), true);
        for (int i = 0; i < 4; i++) {
            Check.tell(x, 1, "y:" + i);
            Check.due("telling one does not make it hold", x.count(5), i - 1);
            Check.due("the next one is not there", x.law(i + 1), false);
            Check.due("as it was", x.count(5), i - 1);
            Check.due("law(" + i + ")", x.law(i), true);
            Check.due("it holds", x.count(5), i);
            Check.due("it holds already", x.law(i), true);
        }
        int[] no = {-2, 4, LEAST, MOST};
        for (int law : no) {
            Check.due("law(" + law + ")", x.law(law), false);
            Check.due("as it was", x.count(5), 3);
        }
        Check.due("law(0)", x.law(0), true);
        Check.due("0", x.count(5), 0);
        Check.due("law(NONE)", x.law(NONE), true);
        Check.due("none", x.count(5), NONE);
    }

    private static void counts() {
        Check.sentence("count: HIDDEN for others");
        int[] others = {-1, 14, 15, -2, LEAST, MOST, LabelRoom.HIDDEN};
        LabelRoom none = new LabelRoom();
        LabelRoom some = Check.room("t:;c:a");
        for (int what : others) {
            Check.due("count(" + what + ")", none.count(what), LabelRoom.HIDDEN);
            Check.due("count(" + what + ")", some.count(what), LabelRoom.HIDDEN);
        }
        Check.sentence("count 11: WORDS that are GONE");
        LabelRoom x = Check.room("t:;ci1:abcdef;ci1:abcdef;ci1:abcdef;ci1:abcdef;ci1:abcdef;ci2:abcdef");
        Check.due("none", x.count(11), 0);
        x.days(1);
        Check.due("30", x.count(11), 30);
        x.days(1);
        Check.due("36", x.count(11), 36);
    }
}
