/** The bounds of ==== 2: INK at 0, what fits, what a DAY takes, the LOG, acts by hand and their undoing. */
public final class BoundDayTest {
    private static final int NONE = LabelRoom.NONE;
    private static final int LEAST = Integer.MIN_VALUE;
    private static final int MOST = Integer.MAX_VALUE;

    public static void main(String[] args) {
        gone();
        trueWords();
        likes();
        fittingNothing();
        fadesAndLight();
        losses();
        letters();
        dayLetter();
        prices();
        whoIsChanged();
        staysAsItIs();
        logCounts();
        logLength();
        actLength();
        undoneLog();
        puts();
        takes();
        copies();
        lamps();
        lights();
        writes();
        manyDays();
        notActs();
        manyCalls();
        Check.finish("BoundDayTest");
    }

    private static void inks(String when, LabelRoom x, int... want) {
        int[] got = new int[want.length];
        for (int place = 0; place < want.length; place++) {
            got[place] = x.word(0, place, 2);
        }
        Check.dueRow("INK " + when, got, want);
    }

    private static void by(LabelRoom x, String law) {
        x.law(Check.tell(x, 1, law));
    }

    private static void gone() {
        Check.sentence("Each WORD has INK of its own; at 0 it is GONE");
        LabelRoom x = Check.room("t:;ct0i2:a;ci1:b");
        int[] first = {x.count(11), x.card(0, 3), x.fits(0, 0)};
        Check.dueRow("INK 2", first, 0, 0, 0);
        x.lamp(0);
        int[] one = {x.word(0, 0, 2), x.count(11), x.card(0, 3), x.fits(0, 0)};
        Check.dueRow("INK 1 is not GONE", one, 1, 0, 0, 0);
        x.lamp(0);
        int[] none = {x.word(0, 0, 2), x.count(11), x.card(0, 3), x.fits(0, 0)};
        Check.dueRow("INK 0 is GONE", none, 0, 1, 1, 1);
        int[] still = {x.card(0, 2), x.word(0, 0, 0), x.word(0, 0, 1)};
        Check.dueRow("a WORD that is GONE is still told", still, 1, 0, 0);
        x.light(9);
        x.days(3);
        inks("stays at 0", x, 0);
        Check.due("and is GONE once", x.count(11), 2);
    }

    private static void trueWords() {
        Check.sentence("A WORD is TRUE of a THING: it HAS the MARK; it has it NOT");
        for (int mark = 0; mark < 6; mark++) {
            char letter = (char) ('a' + mark);
            String others = "abcdef".replace("" + letter, "");
            LabelRoom x = Check.room("t:" + letter + ";t:" + others + ";t:;t:abcdef;c:" + letter + ";c:-" + letter);
            int[] got = {x.suits(0), x.suits(1)};
            Check.dueRow("MARK " + letter, got, 9, 6);
        }
    }

    private static void likes() {
        Check.sentence("there is a THING under that CARD, and both have a MARK in common");
        LabelRoom x = Check.room("t:a;t:ab;t:b;t:;c:>1;c:a");
        Check.due("no THING under it", x.suits(0), 0);
        x.put(0, 1);
        Check.due("a", x.suits(0), 3);
        x.take(1);
        x.put(1, 1);
        Check.due("ab", x.suits(0), 7);
        x.take(1);
        x.put(3, 1);
        Check.due("one without MARKS", x.suits(0), 0);
        Check.sentence("(this one, if it is that very CARD)");
        LabelRoom y = Check.room("t:a;t:b;t:;ct0:>0");
        Check.due("like itself, whatever lies there", y.suits(0), 3);
        y.take(0);
        Check.due("like itself without a THING", y.suits(0), 3);
        LabelRoom z = Check.room("t:a;c:>1;c:>5;c:>9");
        int[] nowhere = {z.fits(0, 0), z.fits(1, 0), z.fits(2, 0)};
        Check.dueRow("an empty CARD, CARDS that are not there", nowhere, 0, 0, 0);
    }

    private static void fittingNothing() {
        Check.sentence("A CARD FITS a THING, if all its WORDS that are not GONE are TRUE");
        LabelRoom x = Check.room("t:abcdef;t:abcde;t:;c:abcdef;c:-a-b-c-d-e-f;ci1:a-a>9");
        int[] six = {x.suits(0), x.suits(1), x.suits(2)};
        Check.dueRow("all six", six, 1, 4, 0);
        x.lamp(2);
        Check.due("all GONE", x.suits(2), 7);
        LabelRoom y = Check.room("t:ab;t:a;t:;ci9:ab");
        by(y, "y:9*p");
        y.days(1);
        Check.due("the first is left", y.suits(0), 3);
        Check.sentence("A THING under no CARD is in the STORE");
        LabelRoom z = Check.room("t:;t:;ct0:a;c:a");
        int[] where = {Sight.thing(z, 0, 2), Sight.thing(z, 1, 2), z.put(0, 1), z.put(1, 1)};
        Check.dueRow("one under a CARD, one in the STORE", where, 0, NONE, NONE, 1);
    }

    private static void fadesAndLight() {
        Check.sentence("(none at first: what its CARD FADES, nothing without LIGHT)");
        for (int light = 0; light <= 9; light++) {
            LabelRoom x = Check.room("sl" + light + ";t:;ci9f4:a");
            x.days(1);
            inks("by LIGHT " + light, x, light == 0 ? 9 : 5);
        }
        for (int fades = 0; fades <= 9; fades++) {
            LabelRoom x = Check.room("t:;ci9f" + fades + ":a-b>0");
            x.days(1);
            inks("FADES " + fades, x, 9 - fades, 9 - fades, 9 - fades);
        }
        Check.sentence("not below 0");
        LabelRoom x = Check.room("t:;ci4f3:a");
        x.days(1);
        inks("4 by 3", x, 1);
        x.days(1);
        inks("1 by 3", x, 0);
        x.days(1);
        inks("0 by 3", x, 0);
    }

    private static void losses() {
        Check.sentence("loses WORTH by the LAW that holds, held within 0 .. 9, not below 0");
        String[] laws = {"y:0-1", "y:0-1000*1000", "y:0", "y:1", "y:8", "y:9", "y:10", "y:1000*1000"};
        int[] left = {9, 9, 9, 8, 1, 0, 0, 0};
        int[] leftOfThree = {3, 3, 3, 2, 0, 0, 0, 0};
        for (int i = 0; i < laws.length; i++) {
            LabelRoom x = Check.room("sl0;t:;ci9f5:a");
            by(x, laws[i]);
            x.days(1);
            inks("9 by " + laws[i], x, left[i]);
            LabelRoom y = Check.room("sl0;t:;ci3f5:a");
            by(y, laws[i]);
            y.days(1);
            inks("3 by " + laws[i], y, leftOfThree[i]);
        }
        Check.sentence("the LAW that holds (none at first)");
        LabelRoom z = Check.room("t:;ci9f1:a");
        Check.tell(z, 1, "y:4");
        z.days(1);
        inks("told, but it does not hold", z, 8);
        z.law(0);
        z.days(1);
        inks("it holds", z, 4);
        z.law(NONE);
        z.days(1);
        inks("none", z, 3);
        Check.sentence("each WORD that is not GONE loses");
        LabelRoom w = Check.room("t:;ci1:a");
        by(w, "y:1");
        w.days(2);
        Check.due("it goes once", w.log(0, 2), 0);
    }

    private static void letters() {
        Check.sentence("letters: i INK, f FADES, l LIGHT, p its place in the CARD (from 0), k its sort (0 HAS, 1 NOT, 2 LIKE)");
        LabelRoom x = Check.room("t:;ci9:abcdef");
        by(x, "y:p");
        x.days(1);
        inks("by p", x, 9, 8, 7, 6, 5, 4);
        by(x, "y:i/2");
        x.days(1);
        inks("by i", x, 5, 4, 4, 3, 3, 2);
        x.light(9);
        by(x, "y:i=l-4?i;y:0");
        x.days(1);
        inks("by l", x, 0, 4, 4, 3, 3, 2);
        LabelRoom y = Check.room("sl0;t:;ci9f0:a-a>0");
        by(y, "y:k");
        y.days(1);
        inks("by k", y, 9, 8, 7);
        by(y, "y:f");
        y.days(1);
        inks("by f, which is 0", y, 9, 8, 7);
        by(y, "y:l");
        y.days(1);
        inks("by l, which is 0", y, 9, 8, 7);
        LabelRoom z = Check.room("sl9;t:;ci9f9:a;ci9f0:a");
        by(z, "y:f+l-10");
        z.days(1);
        int[] got = {z.word(0, 0, 2), z.word(1, 0, 2)};
        Check.dueRow("by f and l of 9", got, 1, 9);
        LabelRoom w = Check.room("t:;ci1:a;ci9:a");
        by(w, "y:i=1?0;y:8");
        w.days(1);
        int[] ends = {w.word(0, 0, 2), w.word(1, 0, 2)};
        Check.dueRow("by i of 1 and of 9", ends, 1, 1);
    }

    private static void dayLetter() {
        Check.sentence("d the DAY .. (2) The DAY is one later (0 at first)");
        LabelRoom x = Check.room("t:;ci9:a");
        Check.due("0 at first", x.count(6), 0);
        by(x, "y:d");
        int[] left = {9, 8, 6, 3, 0, 0};
        for (int day = 0; day < left.length; day++) {
            Check.due("days(1)", x.days(1), day + 1);
            inks("behind day " + day, x, left[day]);
        }
        LabelRoom y = Check.room("t:;ci9:a");
        by(y, "y:d=120?5;y:0");
        y.days(60);
        y.days(60);
        inks("ahead of day 120", y, 9);
        y.days(1);
        inks("behind day 120", y, 4);
    }

    private static void prices() {
        Check.sentence("whose PRICE is no more than the MONEY");
        int[][] cases = {{0, 0, 0}, {0, 1, NONE}, {4, 5, NONE}, {5, 5, 0}, {6, 5, 0}, {8, 9, NONE}, {9, 9, 0}, {99, 9, 0}};
        for (int[] one : cases) {
            LabelRoom x = Check.room("sl0m" + one[0] + ";tp" + one[1] + ":a;c:a");
            x.days(1);
            int[] got = {x.card(0, 1), x.count(8), x.log(0, 0), x.log(0, 1)};
            boolean paid = one[2] != NONE;
            Check.dueRow("MONEY " + one[0] + ", PRICE " + one[1], got, one[2], paid ? one[0] - one[1] : one[0],
                paid ? 1 : 0, paid ? 0 : 1);
        }
        Check.sentence("the one with the least PRICE (of several the lowest)");
        LabelRoom x = Check.room("sl0;tp3:a;tp2:a;tp2:a;tp1:b;tp2:a;c:a;c:a;c:a;c:a;c:a");
        x.days(1);
        int[] got = {x.card(0, 1), x.card(1, 1), x.card(2, 1), x.card(3, 1), x.card(4, 1), x.count(8)};
        Check.dueRow("by PRICE, then by number", got, 1, 2, 4, 0, NONE, 11);
        LabelRoom y = Check.room("sl0m1;tp2:a;tp0:a;c:a;c:a");
        y.days(1);
        int[] least = {y.card(0, 1), y.card(1, 1), y.count(8)};
        Check.dueRow("one that is too dear stays in the STORE", least, 1, NONE, 1);
        LabelRoom z = Check.room("sl0m4;tp2:a;tp2:a;tp2:a;c:a;c:a;c:a");
        z.days(1);
        int[] money = {z.card(0, 1), z.card(1, 1), z.card(2, 1), z.count(8)};
        Check.dueRow("MONEY is less for each CARD behind", money, 0, 1, NONE, 0);
    }

    private static void whoIsChanged() {
        Check.sentence("(3) CARDS by numbers: one without a THING, or that does not FIT its THING");
        LabelRoom x = Check.room("sl0;tp9:a;tp0:a;ct0:a");
        x.days(1);
        int[] fits = {x.card(0, 1), x.count(8), x.log(0, 0)};
        Check.dueRow("one that FITS is not changed for a cheaper one", fits, 0, 20, 0);
        Check.sentence("what was there goes to the STORE");
        LabelRoom y = Check.room("sl0;t:a;t:b;t:c;ct0:b;ct1:c;c:a");
        y.days(1);
        int[] chain = {y.card(0, 1), y.card(1, 1), y.card(2, 1), y.log(0, 0), y.log(0, 1)};
        Check.dueRow("card 0 finds its THING under card 1 still", chain, 0, 2, NONE, 1, 2);
        y.days(1);
        int[] then = {y.card(0, 1), y.card(1, 1), y.card(2, 1), y.log(0, 0), y.log(0, 1)};
        Check.dueRow("on the next DAY it is in the STORE", then, 1, 2, 0, 2, 0);
        Check.sentence("that it FITS (as if that lay under it)");
        LabelRoom z = Check.room("sl0;t:;t:a;c:>0;c:>1-a");
        z.days(1);
        int[] itself = {z.card(0, 1), z.card(1, 1)};
        Check.dueRow("like itself", itself, 1, NONE);
        Check.sentence("all WORDS GONE: anything FITS");
        LabelRoom w = Check.room("t:a;tp0:b;ci1:c-c");
        w.days(1);
        int[] any = {w.card(0, 1), w.log(0, 0), w.log(0, 1), w.log(0, 2)};
        Check.dueRow("ink goes first, things are changed then", any, 1, 1, 0, 2);
    }

    private static void staysAsItIs() {
        Check.sentence("None: it stays as it is");
        LabelRoom x = Check.room("sl0;t:a;t:b;ct0:c;c:c");
        x.days(1);
        int[] got = {x.card(0, 1), x.card(1, 1), x.count(8), x.log(0, 0), x.log(0, 1)};
        Check.dueRow("nothing FITS", got, 0, NONE, 20, 0, 2);
        LabelRoom y = Check.room("sl0m0;t:a;t:c;ct0:c");
        y.days(1);
        int[] dear = {y.card(0, 1), y.count(8), y.log(0, 0), y.log(0, 1)};
        Check.dueRow("nothing can be paid", dear, 0, 0, 0, 1);
        LabelRoom z = Check.room("sl0;t:c;t:a;ct0:c;ct1:c");
        z.days(1);
        int[] taken = {z.card(0, 1), z.card(1, 1), z.log(0, 0), z.log(0, 1)};
        Check.dueRow("what lies under another CARD is not in the STORE", taken, 0, 1, 0, 1);
    }

    private static void logCounts() {
        Check.sentence("LOG: how many were changed, how many CARDS have no THING or do not FIT then, how many WORDS went GONE");
        LabelRoom all = Check.room("t:;t:;t:;t:;t:;t:;ci1:abcdef;ci1:abcdef;ci1:abcdef;ci1:abcdef;ci1:abcdef;ci1:abcdef");
        all.days(1);
        int[] most = {all.log(0, 0), all.log(0, 1), all.log(0, 2)};
        Check.dueRow("six changed, 36 WORDS", most, 6, 0, 36);
        all.days(1);
        int[] none = {all.log(0, 0), all.log(0, 1), all.log(0, 2)};
        Check.dueRow("nothing", none, 0, 0, 0);
        LabelRoom wrong = Check.room("t:;ct0:a;c:a;c:a;c:a;c:a;c:a");
        wrong.days(1);
        int[] six = {wrong.log(0, 0), wrong.log(0, 1), wrong.log(0, 2)};
        Check.dueRow("six that are not right", six, 0, 6, 0);
        // a card can be changed and be wrong again by what lies under another one then
        LabelRoom like = Check.room("sl0;t:a;t:b;t:ab;ct0:b;c:>0a;c:c");
        like.days(1);
        int[] got = {like.card(0, 1), like.card(1, 1), like.log(0, 0), like.log(0, 1)};
        Check.dueRow("card 1 finds the one that is like what card 0 has now", got, 1, 2, 2, 1);
        Check.sentence("log: no such ones");
        int[] no = {like.log(0, -1), like.log(0, 3), like.log(1, 0), like.log(-1, 0)};
        Check.dueRow("log", no, NONE, NONE, NONE, NONE);
    }

    /** Six WORDS go GONE on day 0, five on day 1, and so on: each of the first DAYS has a LOG of its own. */
    private static LabelRoom stairs() {
        LabelRoom x = Check.room("t:;ci9:abcdef;ci9:abcde;ci9:abcd;ci9:abc;ci9:ab;ci9:a");
        by(x, "y:d=p?9;y:0");
        return x;
    }

    /** The oldest of the LOG, and those behind it. */
    private static void oldest(String when, LabelRoom x, int length, int... want) {
        Check.due(when + ", how long", x.count(12), length);
        int[] got = new int[want.length];
        for (int i = 0; i < want.length; i++) {
            got[i] = x.log(length - 1 - i, 2);
        }
        Check.dueRow(when + ", the oldest", got, want);
        Check.due(when + ", behind the oldest", x.log(length, 2), NONE);
    }

    private static void logLength() {
        Check.sentence("LOG .. (the latest 60 DAYS)");
        LabelRoom x = stairs();
        oldest("no DAY", x, 0);
        x.days(1);
        oldest("1 DAY", x, 1, 6);
        x.days(1);
        oldest("2 DAYS", x, 2, 6, 5);
        x.days(57);
        oldest("59 DAYS", x, 59, 6, 5, 4, 3, 2, 1, 0, 0);
        x.days(1);
        oldest("60 DAYS", x, 60, 6, 5, 4, 3, 2, 1, 0, 0);
        x.days(1);
        oldest("61 DAYS", x, 60, 5, 4, 3, 2, 1, 0, 0);
        x.days(1);
        oldest("62 DAYS", x, 60, 4, 3, 2, 1, 0, 0);
        for (int i = 0; i < 10; i++) {
            x.days(60);
        }
        oldest("662 DAYS", x, 60, 0, 0, 0, 0);
        int[] far = {x.count(6), x.log(MOST, 2), x.log(LEAST, 2), x.log(0, MOST), x.log(0, LEAST)};
        Check.dueRow("far outside", far, 662, NONE, NONE, NONE, NONE);
    }

    private static void actLength() {
        Check.sentence("All these (each DAY) are ACTS: the latest 40 can be UNDONE one by one");
        LabelRoom x = Check.room("sl0;t:;c:a");
        Check.due("none", x.count(13), 0);
        Check.due("undo of none", x.undo(), NONE);
        for (int i = 1; i <= 39; i++) {
            x.light(i % 10);
        }
        Check.due("39", x.count(13), 39);
        x.light(0);
        Check.due("40", x.count(13), 40);
        x.light(1);
        Check.due("41", x.count(13), 40);
        for (int left = 39; left >= 0; left--) {
            Check.due("undo", x.undo(), left);
            Check.due("LIGHT", x.count(7), (left + 1) % 10);
        }
        Check.due("no more", x.undo(), NONE);
        Check.due("LIGHT behind the first act", x.count(7), 1);
        LabelRoom y = Check.room("sl0;t:;c:a");
        y.days(60);
        Check.due("60 DAYS", y.count(13), 40);
        for (int left = 39; left >= 0; left--) {
            y.undo();
            Check.due("DAY", y.count(6), 20 + left);
        }
        Check.due("no more", y.undo(), NONE);
        Check.due("DAY 20", y.count(6), 20);
        y.days(1);
        int[] again = {y.count(13), y.undo(), y.undo(), y.count(6)};
        Check.dueRow("one more, and it undone", again, 1, 0, NONE, 20);
        // the ring of acts goes round while some are undone
        LabelRoom z = Check.room("sl0;t:;c:a");
        for (int i = 0; i < 100; i++) {
            z.days(3);
            z.undo();
            z.undo();
        }
        int[] round = {z.count(6), z.count(13), z.undo(), z.count(6)};
        Check.dueRow("300 acts, 200 undone: 40 at most, two of them undone", round, 100, 38, 37, 99);
    }

    private static void undoneLog() {
        Check.sentence("UNDONE one by one (LOG, too)");
        LabelRoom x = stairs();
        x.days(60);
        x.days(2);
        oldest("62 DAYS", x, 60, 4, 3, 2, 1, 0);
        x.undo();
        oldest("one undone", x, 60, 5, 4, 3, 2, 1, 0);
        x.undo();
        oldest("two undone: day 0 is in the LOG again", x, 60, 6, 5, 4, 3, 2, 1, 0);
        x.undo();
        oldest("three undone", x, 59, 6, 5, 4, 3, 2, 1, 0);
        LabelRoom y = stairs();
        y.days(60);
        y.days(40);
        oldest("100 DAYS", y, 60, 0, 0, 0);
        for (int i = 0; i < 40; i++) {
            y.undo();
        }
        Check.due("DAY", y.count(6), 60);
        oldest("40 undone", y, 60, 6, 5, 4, 3, 2, 1, 0);
        // acts by hand leave the LOG alone
        y.light(4);
        y.put(0, 0);
        oldest("acts by hand", y, 60, 6, 5, 4, 3, 2, 1, 0);
        y.undo();
        y.undo();
        oldest("and they undone", y, 60, 6, 5, 4, 3, 2, 1, 0);
    }

    private static void puts() {
        Check.sentence("a THING of the STORE is PUT under a CARD without one");
        LabelRoom x = Check.room("t:;t:;t:;t:;t:;t:;t:;t:;c:a;c:a;c:a;c:a;c:a;c:a");
        Check.due("the last THING, the last CARD", x.put(7, 5), 1);
        Check.due("the first ones", x.put(0, 0), 2);
        int[] got = {x.card(5, 1), x.card(0, 1), Sight.thing(x, 7, 2), Sight.thing(x, 0, 2)};
        Check.dueRow("there they are", got, 7, 0, 5, 0);
        int[] no = {x.put(7, 4), x.put(1, 5), x.put(7, 5), x.put(8, 1), x.put(1, 6), x.put(-1, 1), x.put(1, -1)};
        Check.dueRow("refused", no, NONE, NONE, NONE, NONE, NONE, NONE, NONE);
        Check.due("acts", x.count(13), 2);
        Check.sentence("put: how many ACTS can be UNDONE");
        for (int i = 3; i <= 43; i++) {
            x.light(i % 2 * 5);
        }
        Check.due("40 at most", x.put(1, 1), 40);
    }

    private static void takes() {
        Check.sentence("it is TAKEN");
        LabelRoom x = Check.room("t:;t:;t:;t:;t:;t:;t:;t:;c:a;c:a;c:a;c:a;c:a;ct7:a");
        int[] got = {x.take(0), x.take(6), x.take(-1), x.take(5), x.take(5), x.count(13), x.put(7, 0), x.take(0)};
        Check.dueRow("take", got, NONE, NONE, NONE, 7, NONE, 1, 2, 7);
    }

    private static void copies() {
        Check.sentence("a CARD is COPIED for one MONEY (all its WORDS that are not GONE have INK 9)");
        LabelRoom x = Check.room("sm1;t:;ci1:a-b>0;ci9:a");
        by(x, "y:k=1?9;y:0");
        x.days(1);
        Check.due("MONEY 1", x.count(8), 1);
        Check.due("copy", x.copy(0), 0);
        inks("those that are left", x, 9, 0, 9);
        int[] no = {x.copy(0), x.copy(1), x.count(8), x.count(13)};
        Check.dueRow("MONEY 0", no, NONE, NONE, 0, 2);
        LabelRoom y = Check.room("sm99;t:;ci9:a;ci1:a");
        Check.due("one that has 9 already", y.copy(0), 98);
        inks("9 still", y, 9);
        y.lamp(1);
        int[] left = {y.copy(1), y.count(8), y.copy(2), y.copy(-1)};
        Check.dueRow("no WORD left, no such CARD", left, NONE, 98, NONE, NONE);
    }

    private static void lamps() {
        Check.sentence("a LAMP reads it (each of its WORDS that is not GONE loses 1)");
        LabelRoom x = Check.room("t:;ci9:abcdef;c:a");
        by(x, "y:p*2");
        x.days(1);
        inks("ahead", x, 9, 7, 5, 3, 1, 0);
        Check.due("one goes", x.lamp(0), 4);
        inks("behind", x, 8, 6, 4, 2, 0, 0);
        int[] left = {x.lamp(0), x.lamp(0), x.lamp(0), x.lamp(0), x.lamp(0), x.lamp(0), x.lamp(0), x.lamp(0), x.lamp(0)};
        Check.dueRow("how many are left", left, 4, 3, 3, 2, 2, 1, 1, 0, NONE);
        int[] no = {x.count(13), x.lamp(2), x.lamp(-1), x.word(1, 0, 2)};
        Check.dueRow("acts, and no such CARDS", no, 10, NONE, NONE, 5);
    }

    private static void lights() {
        Check.sentence("LIGHT (0 .. 9)");
        LabelRoom x = Check.room("sl5;t:;c:a");
        Check.due("it is so", x.light(5), false);
        Check.due("-1", x.light(-1), false);
        Check.due("10", x.light(10), false);
        Check.due("min", x.light(LEAST), false);
        Check.due("max", x.light(MOST), false);
        int[] no = {x.count(7), x.count(13)};
        Check.dueRow("as it was", no, 5, 0);
        for (int light = 0; light <= 9; light++) {
            Check.due("light(" + light + ")", x.light(light), true);
            Check.due("again", x.light(light), false);
            Check.due("LIGHT", x.count(7), light);
        }
        Check.due("acts", x.count(13), 10);
    }

    private static void writes() {
        Check.sentence("a CARD without a THING is WRITTEN anew by a READING (INK 9 each)");
        LabelRoom x = Check.room("t:;ci1f7:abcdef;ct0:a");
        Check.tell(x, 2, "-f");
        Check.tell(x, 2, ">0>9abcd");
        Check.due("shorter", x.write(0, 0), 1);
        int[] one = {x.card(0, 2), x.word(0, 0, 0), x.word(0, 0, 1), x.word(0, 0, 2), x.word(0, 1, 0), x.card(0, 0)};
        Check.dueRow("one WORD", one, 1, 1, 5, 9, NONE, 7);
        Check.due("longer", x.write(0, 1), 6);
        inks("six", x, 9, 9, 9, 9, 9, 9);
        int[] no = {x.write(1, 0), x.write(2, 0), x.write(-1, 0), x.write(0, 2), x.write(0, -1), x.count(13)};
        Check.dueRow("refused", no, NONE, NONE, NONE, NONE, NONE, 2);
        x.light(0);
        Check.due("again by the same", x.write(0, 1), 6);
        Check.due("is an act", x.count(13), 4);
        Check.due("GONE ones are told anew", x.count(11), 0);
        LabelRoom y = Check.room("t:;ci1:abc");
        y.lamp(0);
        Check.due("GONE", y.count(11), 3);
        Check.tell(y, 2, "ab");
        y.write(0, 0);
        Check.due("none is GONE then", y.count(11), 0);
    }

    private static void manyDays() {
        Check.sentence("DAYS (1 .. 60)");
        LabelRoom x = Check.room("t:;c:a");
        int[] no = {x.days(0), x.days(-1), x.days(61), x.days(LEAST), x.days(MOST), x.count(6),
            x.count(13), x.count(12)};
        Check.dueRow("refused", no, NONE, NONE, NONE, NONE, NONE, 0, 0, 0);
        int[] yes = {x.days(1), x.count(13), x.days(60), x.count(13), x.days(59), x.count(6)};
        Check.dueRow("1, 60, 59", yes, 1, 1, 61, 40, 120, 120);
    }

    private static void notActs() {
        Check.sentence("All these (each DAY) are ACTS");
        LabelRoom x = Check.room("t:a;c:a");
        Check.tell(x, 1, "y:1");
        Check.tell(x, 2, "a");
        x.law(0);
        x.cleaner(5);
        x.stood(0, 0, true);
        x.image();
        x.right();
        x.matched(0);
        Check.due("LAWS, CLEANER, STOOD, IMAGE and questions are none", x.count(13), 0);
        x.days(1);
        x.law(NONE);
        x.cleaner(6);
        x.stood(0, 0, true);
        Check.due("undo", x.undo(), 0);
        int[] kept = {x.count(5), x.count(9), x.count(10), x.count(2), x.count(3)};
        Check.dueRow("what is no act is not undone", kept, NONE, 6, 2, 1, 1);
    }

    private static void manyCalls() {
        Check.sentence("An object is used for at most 512 calls after it has been made");
        LabelRoom x = Check.room("t:a;t:b;ct0i9f0:a");
        by(x, "y:d>2951*10+8?4;y:0");
        for (int i = 1; i <= 490; i++) {
            Check.due("days(60)", x.days(60), i * 60);
        }
        Check.due("decades(60)", x.decades(60, 1L), 29460);
        Check.due("decades(60)", x.decades(60, Long.MAX_VALUE), 29520);
        // the last one was day 29519
        int[] late = {x.count(6), x.count(12), x.count(13), x.log(59, 0), x.word(0, 0, 2), x.card(0, 1), x.undo(),
            x.count(6), x.word(0, 0, 2)};
        Check.dueRow("29520 DAYS", late, 29520, 60, 40, 0, 5, 0, 39, 29519, 9);
        LabelRoom y = Check.room("t:a;ct0i9f0:a");
        by(y, "y:d=9999?4;y:0");
        for (int i = 1; i <= 166; i++) {
            y.days(60);
        }
        y.days(39);
        Check.due("DAY", y.count(6), 9999);
        Check.due("ahead of day 9999", y.word(0, 0, 2), 9);
        y.days(1);
        Check.due("behind day 9999", y.word(0, 0, 2), 5);
    }
}
