/** The bounds of ==== 3: questions, apart, with none, one and all of what they look at. */
public final class BoundQuestionTest {
    private static final int NONE = LabelRoom.NONE;
    private static final int LEAST = Integer.MIN_VALUE;
    private static final int MOST = Integer.MAX_VALUE;
    private static final int ALL_PARTS = 1000000000;

    public static void main(String[] args) {
        rights();
        mostCards();
        leastPrices();
        leastDigits();
        matchedLikes();
        clashNone();
        clashFewest();
        clashAlone();
        blankDays();
        blankByLaw();
        stoods();
        onceRows();
        onceGone();
        onceOfStood();
        nexts();
        savings();
        rounds();
        nowheres();
        forgeries();
        alones();
        suits();
        wanted();
        halves();
        shares();
        twins();
        oddsBounds();
        oddsParts();
        rescues();
        Check.finish("BoundQuestionTest");
    }

    private static void by(LabelRoom x, String law) {
        x.law(Check.tell(x, 1, law));
    }

    private static void rights() {
        Check.sentence("RIGHT: CARDS (bits) that have a THING that they FIT");
        Check.due("none has one", Check.room("t:a;c:a").right(), 0);
        Check.due("it does not FIT", Check.room("t:b;ct0:a").right(), 0);
        Check.due("it FITS", Check.room("t:a;ct0:a").right(), 1);
        String six = "t:a;t:a;t:a;t:a;t:a;t:a;ct0:a;ct1:a;ct2:a;ct3:a;ct4:a;ct5:a";
        Check.due("all six", Check.room(six).right(), 63);
        LabelRoom x = Check.room(six);
        x.take(5);
        Check.due("all but the last", x.right(), 31);
        LabelRoom y = Check.room("t:b;ct0i1:a;ci1:a");
        y.lamp(0);
        y.lamp(1);
        Check.due("without WORDS left it FITS what it has; without a THING it is not right", y.right(), 1);
        Check.sentence("card: whether it FITS its THING (1, 0; without one 0)");
        int[] told = {y.card(0, 3), y.card(1, 3)};
        Check.dueRow("card", told, 1, 0);
        Check.sentence("right: NONE: no COLLECTION");
        Check.due("right", new LabelRoom().right(), NONE);
    }

    private static void match(String text, int digits, int many, int prices) {
        LabelRoom x = Check.room(text);
        int[] got = {x.matched(0), x.matched(1), x.matched(2)};
        Check.dueRow("matched of " + text, got, digits, many, prices);
    }

    private static void mostCards() {
        Check.sentence("MATCH: the most CARDS that have a THING and FIT it");
        match("t:b;c:a", 9, 0, 0);
        match("t:b;c:a;c:a;c:a;c:a;c:a;c:a", 999999, 0, 0);
        match("t:a;c:a", 0, 1, 1);
        match("t:;t:;t:;t:;t:;t:;t:;t:;c:-a;c:-a;c:-a;c:-a;c:-a;c:-a", 12345, 6, 6);
        match("t:f;t:e;t:d;t:c;t:b;t:a;t:;t:;c:a;c:b;c:c;c:d;c:e;c:f", 543210, 6, 6);
        match("t:a;t:b;t:c;t:d;t:e;t:f;t:ab;t:abc;c:ab;c:abc;c:-a-b-c-d-e;c:-a-b-c-d-f;c:-a-b-c-e-f;c:c", 675432, 6, 6);
        // more CARDS go ahead of a lower PRICE
        match("tp0:ab;tp9:a;c:a;c:b", 10, 2, 9);
        match("tp0:a;c:a;c:a", 9, 1, 0);
        Check.sentence("each to one at most, wherever they are");
        match("t:a;t:b;ct1:a;ct0:b", 1, 2, 2);
        match("t:a;ct0:b;c:a", 90, 1, 1);
    }

    private static void leastPrices() {
        Check.sentence("of these the least PRICES together of all that lie under a CARD");
        match("tp9:a;tp0:a;c:a", 1, 1, 0);
        match("tp5:a;tp5:a;tp4:a;c:a;c:a", 2, 2, 9);
        match("tp9:;tp9:;tp9:;tp9:;tp9:;tp9:;tp9:;tp9:;c:-a;c:-a;c:-a;c:-a;c:-a;c:-a", 12345, 6, 54);
        match("tp9:;tp9:;tp9:;tp9:;tp9:;tp9:;tp8:;tp9:;c:-a;c:-a;c:-a;c:-a;c:-a;c:-a", 12346, 6, 53);
        match("tp0:;tp0:;c:-a;c:-b", 1, 2, 0);
        // the dear one is left out though the first CARD would have it
        match("tp9:a;tp1:ab;tp1:b;c:a;c:b", 12, 2, 2);
        match("tp2:ab;tp1:a;tp3:b;c:a;c:b", 10, 2, 3);
    }

    private static void leastDigits() {
        Check.sentence("of these the least digits (CARD 0 the highest; 9: none)");
        match("t:a;t:a;c:a", 0, 1, 1);
        match("t:a;t:a;t:a;c:a;c:a", 1, 2, 2);
        match("t:a;t:a;c:b;c:a", 90, 1, 1);
        match("t:a;c:a;c:a;c:a", 99, 1, 1);
        match("t:;t:;t:;t:;t:;t:;t:;t:a;c:a;c:-a", 70, 2, 2);
        Check.sentence("matched: NONE: no COLLECTION, no such what");
        LabelRoom x = Check.room("t:a;c:a");
        int[] no = {x.matched(-1), x.matched(3), x.matched(LEAST), x.matched(MOST), new LabelRoom().matched(0),
            new LabelRoom().matched(1), new LabelRoom().matched(2)};
        Check.dueRow("matched", no, NONE, NONE, NONE, NONE, NONE, NONE, NONE);
    }

    private static void matchedLikes() {
        Check.sentence("(LIKE is of the THINGS as they are matched; a CARD that has a THING FITS it, else it has none.)");
        match("t:a;t:ab;ct0:a;c:>0", 1, 2, 2);
        match("t:a;t:b;ct0:a;c:>0", 9, 1, 1);
        match("t:;c:>0", 9, 0, 0);
        match("t:a;c:>0", 0, 1, 1);
        match("t:a;c:>1", 9, 0, 0);
        match("t:a;t:a;c:>1;c:>0", 1, 2, 2);
        // what card 0 has must be like it, and it like what card 0 has, though each could have another one
        match("tp1:a;tp1:b;tp1:b;c:-c;c:>0b", 12, 2, 2);
        match("tp1:b;tp9:a;tp9:b;c:>1;c:-c", 2, 2, 10);
        match("tp1:ab;tp1:cd;tp1:bc;tp1:d;c:-f;c:>0;c:>1;c:>2", 213, 4, 4);
        match("t:a;t:a;c:>1;c:>9", 99, 0, 0);
        match("t:a;t:a;t:a;t:a;t:a;t:a;c:>1;c:>2;c:>3;c:>4;c:>5;c:>0", 12345, 6, 6);
        match("t:a;t:a;t:a;t:a;t:a;t:;c:>1;c:>2;c:>3;c:>4;c:>5;c:>0", 999999, 0, 0);
        match("t:ab;t:bc;t:cd;t:de;t:ef;t:f;c:>1;c:>2;c:>3;c:>4;c:>5;c:-a-b-c-d-e", 12345, 6, 6);
    }

    private static void clash(String text, int want) {
        Check.due("clash of " + text, Check.room(text).clash(), want);
    }

    private static void clashNone() {
        Check.sentence("clash: NONE: all can be RIGHT, no COLLECTION");
        Check.due("no COLLECTION", new LabelRoom().clash(), NONE);
        clash("t:a;c:a", NONE);
        clash("t:a;t:a;t:a;t:a;t:a;t:a;c:a;c:a;c:a;c:a;c:a;c:a", NONE);
        clash("t:f;t:e;t:d;t:c;t:b;t:a;c:a;c:b;c:c;c:d;c:e;c:f", NONE);
        clash("t:a;c:>0", NONE);
    }

    private static void clashFewest() {
        Check.sentence("CLASH: the fewest CARDS (bits; of several the least) that cannot all be RIGHT at once");
        clash("t:a;c:b", 1);
        clash("t:a;c:a;c:a", 3);
        clash("t:a;t:a;c:a;c:a;c:a", 7);
        clash("t:a;t:a;t:a;c:a;c:a;c:a;c:a", 15);
        clash("t:a;t:a;t:a;t:a;t:a;c:a;c:a;c:a;c:a;c:a;c:a", 63);
        // one CARD is fewer than two, though its bits are more
        clash("t:a;c:a;c:a;c:b", 4);
        clash("t:a;c:a;c:a;c:a;c:a;c:a;c:b", 32);
        // of several of one CARD, of two CARDS
        clash("t:a;c:b;c:c", 1);
        clash("t:a;t:b;c:a;c:b;c:b;c:a", 6);
        clash("t:a;t:b;c:-c;c:a;c:b;c:a", 10);
        clash("t:a;t:b;c:a;c:b;c:-c", 7);
        clash("t:a;t:b;t:b;t:b;c:a;c:b;c:b;c:b;c:b;c:a", 33);
        clash("t:a;t:b;t:b;c:b;c:b;c:a;c:b", 11);
    }

    private static void clashAlone() {
        Check.sentence("CLASH: .. if no THING lies under any other CARD");
        clash("t:a;t:a;c:a;c:>0", 2);
        clash("t:a;t:a;c:>1;c:>0", 1);
        clash("t:a;c:>9", 1);
        clash("t:;c:>0", 1);
        // where they lie now does not count
        clash("t:a;t:b;ct1:a;ct0:b", NONE);
        LabelRoom x = Check.room("t:a;ci1:b;c:a");
        Check.due("with its WORD", x.clash(), 1);
        x.lamp(0);
        Check.due("with its WORD GONE both want the one THING", x.clash(), 3);
    }

    private static void blankDays() {
        Check.sentence("BLANK: behind how many DAYS (0 .. 99; no MONEY, nothing changed) all WORDS of a CARD are GONE");
        LabelRoom x = Check.room("t:;ci1f1:a;ci9f1:a;ci9f9:a;ci9f4:a;ci1f0:a;ci2f1:abcdef");
        int[] got = {x.blank(0), x.blank(1), x.blank(2), x.blank(3), x.blank(4), x.blank(5)};
        Check.dueRow("blank", got, 1, 9, 1, 3, NONE, 2);
        x.lamp(0);
        Check.due("0 DAYS", x.blank(0), 0);
        x.light(0);
        int[] dark = {x.blank(0), x.blank(1), x.blank(5)};
        Check.dueRow("without LIGHT", dark, 0, NONE, NONE);
        int[] no = {x.blank(-1), x.blank(6), x.blank(LEAST), x.blank(MOST), new LabelRoom().blank(0)};
        Check.dueRow("no such CARD", no, NONE, NONE, NONE, NONE, NONE);
        LabelRoom y = Check.room("t:;ci9f3:a-b>0");
        by(y, "y:9*k");
        Check.due("the HAS stays", y.blank(0), NONE);
        by(y, "y:k+1");
        Check.due("the slowest counts", y.blank(0), 9);
    }

    private static void blankByLaw() {
        Check.sentence("BLANK: .. 0 .. 99");
        LabelRoom x = Check.room("t:;ci9:a");
        by(x, "y:d=97?9;y:0");
        Check.due("by day 97", x.blank(0), 98);
        by(x, "y:d=98?9;y:0");
        Check.due("by day 98", x.blank(0), 99);
        by(x, "y:d=99?9;y:0");
        Check.due("by day 99", x.blank(0), NONE);
        x.days(1);
        Check.due("by day 99, a day later", x.blank(0), 99);
        by(x, "y:d/99*9");
        Check.due("by day 99 again", x.blank(0), 99);
        x.days(59);
        x.days(39);
        Check.due("on day 99", x.blank(0), 1);
        String seen = Sight.state(x);
        x.blank(0);
        Check.due("nothing changed", Sight.state(x), seen);
        x.days(1);
        Check.due("GONE", x.blank(0), 0);
    }

    private static void stoods() {
        Check.sentence("STOOD (10 at most)");
        LabelRoom x = Check.room("t:;t:;t:;t:;t:;t:;t:;t:;c:a;c:a;c:a;c:a;c:a;c:a");
        Check.due("none", x.count(10), 0);
        int[] no = {x.stood(8, 0, true), x.stood(-1, 0, true), x.stood(0, 6, false), x.stood(0, -1, false),
            x.stood(LEAST, 0, true), x.stood(MOST, 0, true), x.stood(0, LEAST, true), x.stood(0, MOST, true), x.count(10)};
        Check.dueRow("no such ones", no, NONE, NONE, NONE, NONE, NONE, NONE, NONE, NONE, 0);
        for (int i = 1; i <= 9; i++) {
            Check.due("stood", x.stood(7, 5, i % 2 == 0), i);
        }
        Check.due("a tenth", x.stood(0, 0, false), 10);
        Check.due("an eleventh", x.stood(0, 0, false), NONE);
        Check.due("how many", x.count(10), 10);
        // the tenth counts
        Check.due("card 0: nothing GONE, and it did not FIT", x.once(0, -1), 1);
        Check.due("card 5: it FITTED and did not", x.once(5, -1), 0);
        Check.tell(x, 0, "t:;c:a");
        Check.due("none of another COLLECTION", x.count(10), 0);
        Check.due("stood", x.stood(0, 0, true), 1);
    }

    private static void onceRows() {
        Check.sentence("ONCE: .. rows as digits to the base 12, the first the highest: how many, the i-th (rising)");
        LabelRoom x = Check.room("t:;ci1:a;ci1:ab;ci1:abc;ci1:abcd;ci9:a");
        x.days(1);
        int[] many = {x.once(4, -1), x.once(0, -1), x.once(1, -1), x.once(2, -1), x.once(3, -1)};
        Check.dueRow("0, 1, 2, 3, 4 GONE", many, 1, 12, 144, 1728, NONE);
        int[] first = {x.once(4, 0), x.once(0, 0), x.once(1, 0), x.once(2, 0), x.once(3, 0)};
        Check.dueRow("the first", first, 0, 0, 0, 0, NONE);
        int[] last = {x.once(0, 11), x.once(1, 143), x.once(2, 1727)};
        Check.dueRow("the last", last, 11, 143, 1727);
        int[] behind = {x.once(4, 1), x.once(0, 12), x.once(1, 144), x.once(2, 1728), x.once(2, MOST)};
        Check.dueRow("behind the last", behind, NONE, NONE, NONE, NONE, NONE);
        int[] no = {x.once(0, -2), x.once(0, LEAST), x.once(5, -1), x.once(-1, -1), x.once(LEAST, 0), x.once(MOST, 0)};
        Check.dueRow("no such ones", no, NONE, NONE, NONE, NONE, NONE, NONE);
        LabelRoom y = Check.room("t:a;t:b;ci9:abf");
        by(y, "y:p<2?9;y:0");
        y.days(1);
        y.stood(0, 0, true);
        Check.due("f is left, and a without f cannot have FITTED", y.once(0, -1), 0);
    }

    private static void onceGone() {
        Check.sentence("for the WORDS of a CARD that are GONE now (3 at most)");
        LabelRoom x = Check.room("t:;ci9:abcdef");
        by(x, "y:p<2?9;y:p=2?8;y:p=3?7;y:0");
        Check.due("none GONE", x.once(0, -1), 1);
        x.days(1);
        Check.due("two GONE", x.once(0, -1), 144);
        x.lamp(0);
        Check.due("three GONE", x.once(0, -1), 1728);
        int[] three = {x.probe(0), x.saves(0, 0), x.saves(0, 1)};
        Check.dueRow("three GONE: a row is there", three, 0, 0, 0);
        x.lamp(0);
        int[] four = {x.once(0, -1), x.once(0, 0), x.probe(0), x.saves(0, 0), x.saves(0, 1)};
        Check.dueRow("four GONE", four, NONE, NONE, NONE, NONE, NONE);
        x.undo();
        Check.due("undone", x.once(0, -1), 1728);
        Check.sentence("once: NONE: no COLLECTION");
        LabelRoom none = new LabelRoom();
        int[] no = {none.once(0, -1), none.once(0, 0), none.probe(0), none.saves(0, 0), none.saves(0, 1)};
        Check.dueRow("no COLLECTION", no, NONE, NONE, NONE, NONE, NONE);
    }

    private static void onceOfStood() {
        Check.sentence("what each could have been (0 .. 5 HAS a .. f, 6 .. 11 NOT a .. f)");
        for (int mark = 0; mark < 6; mark++) {
            String others = "abcdef".replace("" + (char) ('a' + mark), "");
            LabelRoom x = Check.room("t:" + (char) ('a' + mark) + ";t:" + others + ";ci1:a");
            x.days(1);
            x.stood(0, 0, true);
            x.stood(1, 0, false);
            int[] all = new int[7];
            for (int i = 0; i < 7; i++) {
                all[i] = x.once(0, i);
            }
            int[] want = new int[7];
            want[0] = mark;
            int at = 1;
            for (int other = 0; other < 6; other++) {
                if (other != mark) {
                    want[at] = 6 + other;
                    at++;
                }
            }
            want[6] = NONE;
            Check.dueRow("it FITTED mark " + mark + " alone", all, want);
        }
        Check.sentence("all that STOOD under it is so");
        LabelRoom x = Check.room("t:a;t:b;ci1:a;ci1:a");
        x.days(1);
        x.stood(0, 0, true);
        x.stood(1, 1, true);
        x.stood(0, 1, false);
        int[] cards = {x.once(0, -1), x.once(0, 0), x.once(1, -1), x.once(1, 0), x.once(1, 1)};
        Check.dueRow("each CARD by what STOOD under it", cards, 6, 0, 2, 1, 6);
        Check.sentence("with those that are left (LIKE left out)");
        LabelRoom y = Check.room("t:a;ci9:>9>1b");
        by(y, "y:k=0?9;y:0");
        y.days(1);
        y.stood(0, 0, true);
        int[] like = {y.fits(0, 0), y.once(0, -1), y.once(0, 0), y.probe(0), y.saves(0, 0), y.saves(0, 1)};
        Check.dueRow("LIKE would never be TRUE", like, 0, 6, 0, 0, 0, 1);
        // all twelve rows are held against the words that are left: not a, so a never FITTED
        LabelRoom z = Check.room("t:a;t:;ci9:-ab");
        by(z, "y:p*9");
        z.days(1);
        z.stood(0, 0, false);
        Check.due("it is so by each row", z.once(0, -1), 12);
        z.stood(1, 0, true);
        Check.due("it FITTED none: NOT anything", z.once(0, -1), 6);
        z.stood(0, 0, true);
        Check.due("by no row", z.once(0, -1), 0);
    }

    private static void nexts() {
        Check.sentence("NEXT: the THING by which rows by which it FITS and those by which not are least apart (of several the lowest)");
        // 12 rows: thing with n marks FITS by n + 6 - n of them, always six
        LabelRoom x = Check.room("t:a;t:;t:abcdef;ci1:a");
        x.days(1);
        Check.due("all are 6 and 6", x.probe(0), 0);
        LabelRoom y = Check.room("t:;t:a;t:b;ci1:a");
        y.days(1);
        y.stood(0, 0, true);
        // NOT a .. f are left: thing 0 by 6 of 6, thing 1 and 2 by 5 of 6
        Check.due("of things 1 and 2 the lowest", y.probe(0), 1);
        LabelRoom z = Check.room("t:;t:ab;t:abc;t:abcd;t:abcdef;ci1:a");
        z.days(1);
        z.stood(0, 0, true);
        // by 6, 4, 3, 2 and 0 of 6
        Check.due("3 and 3", z.probe(0), 2);
        LabelRoom w = Check.room("t:a;t:abcdef;t:;ci1:a");
        w.days(1);
        w.stood(2, 0, true);
        // by 5, 0 and 6 of 6: 4, 6 and 6 apart
        Check.due("the least apart", w.probe(0), 0);
        LabelRoom one = Check.room("t:;t:a;c:a");
        Check.due("one row: all are one apart", one.probe(0), 0);
        one.stood(0, 0, true);
        Check.sentence("probe: NONE: no row, no such CARD, more than three GONE");
        int[] no = {one.probe(0), one.probe(1), one.probe(-1), one.probe(LEAST), one.probe(MOST)};
        Check.dueRow("probe", no, NONE, NONE, NONE, NONE, NONE);
    }

    private static void savings() {
        Check.sentence("SAVES: of these rows the one by which the most THINGS of all would FIT the CARD (of several the least)");
        LabelRoom x = Check.room("t:;t:;t:;t:;t:;t:;t:;t:;ci1:a");
        x.days(1);
        int[] all = {x.saves(0, 0), x.saves(0, 1)};
        Check.dueRow("all eight by NOT a", all, 6, 8);
        LabelRoom y = Check.room("t:abcdef;t:abcdef;ci1:ab");
        y.days(1);
        int[] first = {y.saves(0, 0), y.saves(0, 1)};
        Check.dueRow("HAS a twice", first, 0, 2);
        y.stood(0, 0, false);
        int[] none = {y.saves(0, 0), y.saves(0, 1)};
        Check.dueRow("0 THINGS: the least row", none, 6, 0);
        LabelRoom z = Check.room("t:a;t:b;t:b;ci1:abc");
        z.days(1);
        int[] most = {z.saves(0, 0), z.saves(0, 1)};
        // NOT c three times: 8 * 144 + 8 * 12 + 8
        Check.dueRow("three by NOT c", most, 1256, 3);
        LabelRoom w = Check.room("t:a;t:b;c:a");
        int[] left = {w.saves(0, 0), w.saves(0, 1)};
        Check.dueRow("nothing GONE: the row of no digit", left, 0, 1);
        Check.sentence("saves: NONE: no row, no such ones, more than three GONE");
        int[] no = {w.saves(0, -1), w.saves(0, 2), w.saves(0, LEAST), w.saves(0, MOST), w.saves(1, 0), w.saves(-1, 1),
            w.saves(LEAST, 0), w.saves(MOST, 1)};
        Check.dueRow("saves", no, NONE, NONE, NONE, NONE, NONE, NONE, NONE, NONE);
        w.stood(0, 0, false);
        int[] row = {w.once(0, -1), w.saves(0, 0), w.saves(0, 1), w.probe(0)};
        Check.dueRow("no row", row, 0, NONE, NONE, NONE);
    }

    private static void bits(String text, int round, int nowhere, int forged) {
        LabelRoom x = Check.room(text);
        int[] got = {x.round(), x.nowhere(), x.forged()};
        Check.dueRow("round, nowhere, forged of " + text, got, round, nowhere, forged);
    }

    private static void rounds() {
        Check.sentence("ROUND: CARDS (bits) from which one comes back to themselves by LIKE (not GONE; by one CARD or more)");
        bits("t:;c:a", 0, 0, 0);
        bits("t:;c:>0", 1, 0, 0);
        bits("t:;c:>1;c:a", 0, 0, 0);
        bits("t:;c:>1;c:>0", 3, 0, 0);
        bits("t:;c:>1;c:>1", 2, 0, 0);
        bits("t:;c:>1;c:>2;c:>3;c:>4;c:>5;c:>0", 63, 0, 0);
        bits("t:;c:>1;c:>2;c:>3;c:>4;c:>5;c:>1", 62, 0, 0);
        bits("t:;c:>5;c:>0;c:>1;c:>2;c:>3;c:>4", 63, 0, 0);
        bits("t:;c:a>0;c:-a>2;c:>5;c:>4;c:b>3;c:c", 25, 0, 0);
        bits("t:;c:>0>1>2>3>4>5;c:a;c:a;c:a;c:a;c:>0", 33, 0, 0);
        Check.sentence("ROUND: .. not GONE");
        LabelRoom x = Check.room("t:;c:>1;ci1:>0;c:>2");
        x.lamp(1);
        Check.due("round", x.round(), 4);
        Check.sentence("round, nowhere, forged: NONE: no COLLECTION");
        LabelRoom none = new LabelRoom();
        int[] no = {none.round(), none.nowhere(), none.forged()};
        Check.dueRow("no COLLECTION", no, NONE, NONE, NONE);
    }

    private static void nowheres() {
        Check.sentence("NOWHERE: CARDS (bits) with a LIKE, not GONE, that leads nowhere");
        bits("t:;c:>1", 0, 1, 0);
        bits("t:;c:>0>9", 1, 1, 0);
        bits("t:;c:>6;c:>6;c:>6;c:>6;c:>6;c:>6", 0, 63, 0);
        bits("t:;c:>5;c:>7;c:>8;c:>4;c:>9;c:a", 0, 22, 0);
        LabelRoom x = Check.room("t:;ci1:>9;ci2:>9");
        x.lamp(0);
        x.lamp(1);
        Check.due("GONE, and not", x.nowhere(), 2);
        Check.due("NOWHERE is not ROUND", x.round(), 0);
    }

    private static void forgeries() {
        Check.sentence("FALSE: CARDS (bits) with WORDS, not GONE, one that it HAS and one that it has NOT that MARK");
        bits("t:;c:a-b", 0, 0, 0);
        bits("t:;c:aa-b-b", 0, 0, 0);
        bits("t:;c:a-a;c:-b>0b;c:c-c;c:d-d;c:e-e;c:-fabcdf", 0, 0, 63);
        bits("t:;c:>0-a;c:-a-a;c:b-a", 1, 0, 0);
        LabelRoom x = Check.room("t:;ci9:a-a;ci1:a-a");
        x.lamp(1);
        Check.due("GONE", x.forged(), 1);
        by(x, "y:k=0?9;y:0");
        x.days(1);
        Check.due("the HAS is GONE", x.forged(), 0);
    }

    private static void alones() {
        Check.sentence("ALONE: the fewest WORDS .. (of several the least; none can be enough: no other THING)");
        Check.due("no other THING", Check.room("t:abc;c:a").alone(0), 0);
        Check.due("no other THING, no MARKS", Check.room("t:;c:a").alone(0), 0);
        LabelRoom two = Check.room("t:f;t:;c:a");
        int[] one = {two.alone(0), two.alone(1)};
        Check.dueRow("one MARK", one, 32, 32);
        LabelRoom all = Check.room("t:abcdef;t:;c:a");
        int[] least = {all.alone(0), all.alone(1)};
        Check.dueRow("of several the least", least, 1, 1);
        LabelRoom six = Check.room("t:;t:a;t:b;t:c;t:d;t:e;t:f;c:a");
        int[] most = {six.alone(0), six.alone(1), six.alone(6)};
        Check.dueRow("all six, one", most, 63, 1, 32);
        // two WORDS of higher bits are fewer than three of lower ones
        LabelRoom few = Check.room("t:;t:ae;t:be;t:cf;c:a");
        Check.due("c and e, not a and b and c", few.alone(0), 20);
        LabelRoom eight = Check.room("t:;t:a;t:b;t:ab;t:c;t:ac;t:bc;t:abc;c:a");
        for (int thing = 0; thing < 8; thing++) {
            Check.due("all of three MARKS", eight.alone(thing), 7);
        }
        Check.sentence("alone: NONE: none are enough, no such THING");
        LabelRoom twins = Check.room("t:a;t:a;t:b;c:a");
        int[] no = {twins.alone(0), twins.alone(1), twins.alone(2), twins.alone(3), twins.alone(-1), twins.alone(LEAST),
            twins.alone(MOST), new LabelRoom().alone(0)};
        Check.dueRow("alone", no, NONE, NONE, 1, NONE, NONE, NONE, NONE, NONE);
    }

    private static void suits() {
        Check.sentence("SUITS: THINGS (bits) that a CARD FITS, each as if it lay under it");
        LabelRoom x = Check.room("t:a;t:a;t:a;t:a;t:a;t:a;t:a;t:a;c:a;ct3:b;c:>1;c:>9;c:>4;c:-a");
        int[] got = {x.suits(0), x.suits(1), x.suits(2), x.suits(3), x.suits(4), x.suits(5)};
        Check.dueRow("all eight, none", got, 255, 0, 255, 0, 255, 0);
        int[] no = {x.suits(-1), x.suits(6), x.suits(LEAST), x.suits(MOST), new LabelRoom().suits(0)};
        Check.dueRow("no such CARD", no, NONE, NONE, NONE, NONE, NONE);
        Check.sentence("fits: NONE: no such ones");
        int[] fits = {x.fits(0, 7), x.fits(0, 8), x.fits(6, 0), x.fits(-1, 0), x.fits(0, -1), x.fits(LEAST, LEAST),
            x.fits(MOST, MOST), x.fits(5, 7)};
        Check.dueRow("fits", fits, 1, NONE, NONE, NONE, NONE, NONE, NONE, 0);
    }

    private static void wanted() {
        Check.sentence("WANTED: the CARD that the fewest THINGS suit (of several the lowest); how many");
        LabelRoom x = Check.room("t:a;t:a;t:a;t:a;t:a;t:a;t:a;t:a;c:a;c:a");
        int[] all = {x.wanted(0), x.wanted(1)};
        Check.dueRow("eight each", all, 0, 8);
        LabelRoom y = Check.room("t:a;t:ab;t:;c:-c;c:a;c:a;c:b;c:b;c:-c");
        int[] least = {y.wanted(0), y.wanted(1)};
        Check.dueRow("one, of cards 3 and 4 the lowest", least, 3, 1);
        LabelRoom z = Check.room("t:a;c:a;c:a;c:a;c:a;c:a;c:b");
        int[] none = {z.wanted(0), z.wanted(1)};
        Check.dueRow("none suits the last", none, 5, 0);
        Check.sentence("wanted: NONE: no COLLECTION, no such what");
        int[] no = {z.wanted(-1), z.wanted(2), z.wanted(LEAST), z.wanted(MOST), new LabelRoom().wanted(0),
            new LabelRoom().wanted(1)};
        Check.dueRow("wanted", no, NONE, NONE, NONE, NONE, NONE, NONE);
    }

    private static void halves() {
        Check.sentence("PERHAPS: CARDS (bits) half of whose WORDS or more are GONE");
        String[] words = {"a", "ab", "abc", "abcd", "abcde", "abcdef"};
        for (String row : words) {
            for (int gone = 0; gone <= row.length(); gone++) {
                LabelRoom x = Check.room("t:;c:f;ci9:" + row);
                by(x, "y:p<" + gone + "?9;y:0");
                x.days(1);
                // card 0 has one WORD: it is GONE unless none is
                int first = gone > 0 ? 1 : 0;
                int second = gone * 2 >= row.length() ? 2 : 0;
                Check.due(gone + " of " + row.length() + " GONE", x.perhaps(), first + second);
            }
        }
        LabelRoom all = Check.room("t:;ci1:a;ci1:a;ci1:a;ci1:a;ci1:a;ci1:a");
        Check.due("none", all.perhaps(), 0);
        all.days(1);
        Check.due("all six", all.perhaps(), 63);
        Check.sentence("perhaps: NONE: no COLLECTION");
        Check.due("perhaps", new LabelRoom().perhaps(), NONE);
    }

    private static void shares() {
        Check.sentence("SHARED of two THINGS: MARKS (bits) in common");
        LabelRoom x = Check.room("t:abcdef;t:;t:abc;t:def;t:af;t:;t:;t:fa;c:a");
        int[] got = {x.shared(0, 0), x.shared(0, 1), x.shared(1, 1), x.shared(2, 3), x.shared(0, 7), x.shared(7, 4),
            x.shared(2, 7), x.shared(7, 2)};
        Check.dueRow("shared", got, 63, 0, 0, 0, 33, 33, 1, 1);
        int[] no = {x.shared(0, 8), x.shared(8, 0), x.shared(-1, 0), x.shared(0, -1), x.shared(LEAST, 0),
            x.shared(0, MOST), new LabelRoom().shared(0, 0)};
        Check.dueRow("no such THINGS", no, NONE, NONE, NONE, NONE, NONE, NONE, NONE);
    }

    private static void twins() {
        Check.sentence("TWINS: pairs of THINGS with the same MARKS (10 times the lower and the other): how many, the i-th (rising)");
        LabelRoom none = Check.room("t:a;t:b;t:;t:ab;c:a");
        int[] zero = {none.twins(-1), none.twins(0)};
        Check.dueRow("none", zero, 0, NONE);
        LabelRoom one = Check.room("tp1:ba;t:c;t:;t:d;t:e;t:f;t:b;tp9:ab;c:a");
        int[] pair = {one.twins(-1), one.twins(0), one.twins(1)};
        Check.dueRow("the first and the last", pair, 1, 7, NONE);
        LabelRoom all = Check.room("t:;t:;t:;t:;t:;t:;t:;t:;c:a");
        Check.due("28", all.twins(-1), 28);
        int i = 0;
        for (int lower = 0; lower < 8; lower++) {
            for (int other = lower + 1; other < 8; other++) {
                Check.due("twins(" + i + ")", all.twins(i), lower * 10 + other);
                i++;
            }
        }
        Check.sentence("twins: NONE: no such one, no COLLECTION");
        int[] no = {all.twins(28), all.twins(-2), all.twins(LEAST), all.twins(MOST), new LabelRoom().twins(-1),
            new LabelRoom().twins(0)};
        Check.dueRow("twins", no, NONE, NONE, NONE, NONE, NONE, NONE);
    }

    private static void oddsBounds() {
        Check.sentence("ODDS of a CARD, n (0 .. 30) DAYS, a chance (0 .. 100)");
        LabelRoom x = Check.room("t:;ci1:a;ci9:a");
        int[] ends = {x.odds(0, 0, 0), x.odds(0, 0, 100), x.odds(0, 30, 0), x.odds(0, 30, 100), x.odds(0, 1, 100),
            x.odds(0, 1, 99), x.odds(0, 1, 1), x.odds(1, 8, 100), x.odds(1, 9, 100), x.odds(1, 30, 100)};
        Check.dueRow("odds", ends, ALL_PARTS, ALL_PARTS, ALL_PARTS, 0, 0, 10000000, 990000000, ALL_PARTS, 0, 0);
        int[] no = {x.odds(0, -1, 50), x.odds(0, 31, 50), x.odds(0, 1, -1), x.odds(0, 1, 101), x.odds(2, 1, 50),
            x.odds(-1, 1, 50), x.odds(LEAST, 1, 50), x.odds(MOST, 1, 50), x.odds(0, LEAST, 50), x.odds(0, MOST, 50),
            x.odds(0, 1, LEAST), x.odds(0, 1, MOST), new LabelRoom().odds(0, 1, 50)};
        for (int answer : no) {
            Check.due("odds: no such CARD, out of bounds", answer, NONE);
        }
    }

    /** Parts by how many DAYS were bright, as the document tells them. */
    private static long unhurt(int ink, int n, int chance) {
        long[] parts = new long[n + 1];
        parts[0] = ALL_PARTS;
        for (int day = 0; day < n; day++) {
            long[] then = new long[n + 1];
            for (int bright = 0; bright <= day; bright++) {
                long moved = parts[bright] * chance / 100;
                then[bright] += parts[bright] - moved;
                then[bright + 1] += moved;
            }
            parts = then;
        }
        long sum = 0;
        for (int bright = 0; bright < Math.min(ink, n + 1); bright++) {
            sum += parts[bright];
        }
        return sum;
    }

    private static void oddsParts() {
        Check.sentence("each DAY chance by 100 of what is left, cut, the DAY is bright: each WORD loses 1, the rest not");
        LabelRoom x = Check.room("t:;ci1:a;ci2:ab;ci5:-a>0;ci9:a");
        int[] inks = {1, 2, 5, 9};
        int[] chances = {0, 1, 33, 50, 67, 99, 100};
        for (int card = 0; card < 4; card++) {
            for (int n = 0; n <= 30; n += n < 4 ? 1 : 13) {
                for (int chance : chances) {
                    Check.due("odds(" + card + ", " + n + ", " + chance + ")", x.odds(card, n, chance),
                        unhurt(inks[card], n, chance));
                }
            }
        }
        // 7 by 100 of 930000000, of 864900000, of 804357000, of 748052010, of 695688370 (.3 is cut)
        Check.due("cut", x.odds(0, 6, 7), 646990185);
        Check.sentence("those by which none of its WORDS that are left is GONE then");
        LabelRoom y = Check.room("t:;ci9:abcdef");
        by(y, "y:p*3");
        y.days(1);
        // INK 9, 6, 3, and three that are GONE
        int[] left = {y.odds(0, 2, 100), y.odds(0, 3, 100), y.odds(0, 3, 50)};
        Check.dueRow("the weakest that is left", left, ALL_PARTS, 0, 875000000);
        y.law(NONE);
        y.light(1);
        for (int i = 0; i < 9; i++) {
            y.lamp(0);
        }
        int[] none = {y.count(11), y.odds(0, 30, 100), y.odds(0, 0, 0)};
        Check.dueRow("none is left that could go", none, 6, ALL_PARTS, ALL_PARTS);
    }

    private static void rescues() {
        Check.sentence("COPY FIRST: the CARD that has WORDS left with the least ODDS (of several the lowest)");
        LabelRoom x = Check.room("t:;ci5:a;ci5:a;ci4:a;ci4:a;ci1:a;ci5:a");
        int[] got = {x.rescue(1, 50), x.rescue(0, 100), x.rescue(30, 0), x.rescue(30, 100), x.rescue(4, 100)};
        Check.dueRow("rescue", got, 4, 0, 0, 0, 2);
        x.lamp(4);
        int[] then = {x.rescue(1, 50), x.rescue(4, 50), x.rescue(30, 50)};
        Check.dueRow("card 4 has no WORD left", then, 0, 2, 2);
        Check.sentence("rescue: NONE: no WORD is left, out of bounds, no COLLECTION");
        int[] no = {x.rescue(-1, 50), x.rescue(31, 50), x.rescue(1, -1), x.rescue(1, 101), x.rescue(LEAST, 50),
            x.rescue(MOST, 50), x.rescue(1, LEAST), x.rescue(1, MOST), new LabelRoom().rescue(1, 50)};
        for (int answer : no) {
            Check.due("rescue: out of bounds, no COLLECTION", answer, NONE);
        }
        LabelRoom y = Check.room("t:;ci1:a;ci1:a");
        y.lamp(0);
        Check.due("card 1 alone", y.rescue(1, 50), 1);
        y.lamp(1);
        Check.due("no WORD is left", y.rescue(1, 50), NONE);
    }
}
