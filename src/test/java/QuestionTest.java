/** Promises 23 to 41: questions, apart from what happens. */
public final class QuestionTest {
    private static final int NONE = LabelRoom.NONE;

    public static void main(String[] args) {
        without();
        rights();
        matches();
        matchesOfLikes();
        clashes();
        blanks();
        stoods();
        onces();
        oncesOfLikes();
        likesRound();
        forgeries();
        alones();
        suiting();
        halves();
        twinning();
        chances();
        rescues();
        apart();
        Check.finish("QuestionTest");
    }

    private static void without() {
        LabelRoom x = new LabelRoom();
        int[] got = {x.right(), x.matched(0), x.matched(1), x.matched(2), x.clash(), x.blank(0), x.stood(0, 0, true),
            x.once(0, -1), x.probe(0), x.saves(0, 0), x.round(), x.nowhere(), x.forged(), x.alone(0), x.suits(0),
            x.wanted(0), x.perhaps(), x.shared(0, 0), x.twins(-1), x.odds(0, 0, 0), x.rescue(0, 0)};
        for (int i = 0; i < got.length; i++) {
            Check.due("no collection, question " + i, got[i], NONE);
        }
    }

    private static void rights() {
        LabelRoom x = Check.room("t:a;t:b;t:;ct0:a;ct1:a;c:-a;ct2:-a>3;ci1:c");
        Check.due("right", x.right(), 1);
        x.take(3);
        x.put(2, 2);
        Check.due("right then", x.right(), 5);
        x.put(x.take(0), 4);
        x.lamp(4);
        Check.due("one without words", x.right(), 20);
    }

    private static void match(String text, int digits, int many, int prices) {
        LabelRoom x = Check.room(text);
        int[] got = {x.matched(0), x.matched(1), x.matched(2), x.matched(-1), x.matched(3)};
        Check.dueRow("matched of " + text, got, digits, many, prices, NONE, NONE);
    }

    private static void matches() {
        match(StateTest.ROOM, 103, 3, 6);
        // the most cards, though the first one would be cheaper elsewhere
        match("tp0:a;tp9:ab;c:a;c:b", 1, 2, 9);
        match("tp9:a;tp0:ab;c:a;c:a", 1, 2, 9);
        match("tp5:a;tp4:a;tp4:a;c:a", 1, 1, 4);
        match("tp5:a;tp4:a;tp3:a;c:a;c:a", 12, 2, 7);
        match("t:a;c:b", 9, 0, 0);
        match("t:a;c:b;c:c;c:d;c:e;c:f;c:-a", 999999, 0, 0);
        match("t:a;c:a;c:a", 9, 1, 1);
        match("t:a;t:a;c:b;c:a;c:a", 901, 2, 2);
        match("t:;t:;t:;t:;t:;t:;t:;t:;c:-a;c:-a;c:-a;c:-a;c:-a;c:-a", 12345, 6, 6);
        match("tp8:;tp7:;tp6:;tp5:;tp4:;tp3:;tp2:;tp1:;c:-a;c:-a;c:-a;c:-a;c:-a;c:-a", 234567, 6, 21);
        // wherever they are
        match("t:a;t:b;ct0:b;ct1:a", 10, 2, 2);
    }

    private static void matchesOfLikes() {
        match("t:a;c:>0", 0, 1, 1);
        match("t:;c:>0", 9, 0, 0);
        match("t:a;c:>1", 9, 0, 0);
        match("t:a;c:>1;c:b", 99, 0, 0);
        match("t:a;t:b;c:>1;c:>0", 99, 0, 0);
        match("t:a;t:ab;t:b;c:>1;c:>0", 1, 2, 2);
        match("tp2:a;tp9:ab;tp1:b;c:>1a;c:>0b", 12, 2, 10);
        match("t:a;t:ab;t:b;c:>1-b;c:>2;c:>1-a", 12, 3, 3);
        // card 1 can have its like only if card 0 has nothing else to be
        match("tp1:a;tp1:b;tp1:b;c:-c;c:>0b", 12, 2, 2);
        match("t:ab;t:bc;t:cd;t:de;c:>1;c:>2;c:>3;c:d-c", 123, 4, 4);
        match("t:a;c:>0>7;c:a", 90, 1, 1);
        match("t:a;t:a;c:>0>1;c:a", 1, 2, 2);
    }

    private static void clash(String text, int want) {
        Check.due("clash of " + text, Check.room(text).clash(), want);
    }

    private static void clashes() {
        clash("t:a;c:a", NONE);
        clash("t:a;c:b", 1);
        clash("t:a;t:a;c:a;c:b;c:c", 2);
        clash("t:a;c:a;c:a", 3);
        clash("t:a;t:b;c:-c;c:a;c:a", 6);
        clash("t:a;t:b;c:-c;c:b;c:a", 7);
        clash("t:a;t:b;t:c;c:-c;c:a;c:-c;c:c", 7);
        clash("t:;t:;t:;t:;t:;c:-a;c:-a;c:-a;c:-a;c:-a;c:-a", 63);
        clash("t:;t:;t:;t:;t:;t:;c:-a;c:-a;c:-a;c:-a;c:-a;c:-a", NONE);
        // of several the least
        clash("t:a;t:b;c:-b;c:a;c:b;c:b", 3);
        // one that is like itself is right alone, one that is like another one is not
        clash("t:a;c:>0", NONE);
        clash("t:;c:>0", 1);
        clash("t:a;t:ab;c:a;c:>0", 2);
        clash("t:a;c:>5", 1);
        clash("t:a;c:a-a", 1);
        LabelRoom x = Check.room("t:a;ci1:b");
        Check.due("ahead of the lamp", x.clash(), 1);
        x.lamp(0);
        Check.due("a word that is gone does not clash", x.clash(), NONE);
    }

    private static void blanks() {
        LabelRoom x = Check.room("t:a;ci5f1:a-b;ci5f2:b;ci9f0:c;ci9f9:d");
        int[] got = {x.blank(0), x.blank(1), x.blank(2), x.blank(3), x.blank(4), x.blank(-1)};
        Check.dueRow("blank", got, 5, 3, NONE, 1, NONE, NONE);
        x.days(2);
        int[] then = {x.blank(0), x.blank(1), x.blank(3)};
        Check.dueRow("two days later", then, 3, 1, 0);
        x.light(0);
        Check.due("without light", x.blank(0), NONE);
        LabelRoom y = Check.room("t:a;ci5:a;ci9:b-b");
        Check.tell(y, 1, "y:d");
        Check.tell(y, 1, "y:i/2");
        Check.tell(y, 1, "y:d=98?9");
        Check.tell(y, 1, "y:d=99?9");
        y.law(0);
        Check.due("by the day", y.blank(0), 4);
        y.days(1);
        Check.due("by the day then", y.blank(0), 3);
        y.law(1);
        Check.due("by its ink", y.blank(0), NONE);
        y.law(2);
        Check.due("within 99", y.blank(1), 98);
        y.law(3);
        Check.due("just within 99", y.blank(1), 99);
        y.undo();
        Check.due("not within 99", y.blank(1), NONE);
        Check.due("day", y.count(6), 0);
    }

    private static void stoods() {
        LabelRoom x = Check.room("t:a;t:b;c:a;c:b");
        int[] wrong = {x.stood(-1, 0, true), x.stood(2, 0, true), x.stood(0, -1, true), x.stood(0, 2, false)};
        Check.dueRow("refused", wrong, NONE, NONE, NONE, NONE);
        for (int i = 1; i <= 10; i++) {
            Check.due("stood", x.stood(i % 2, 0, i % 3 == 0), i);
        }
        Check.due("there are ten", x.stood(0, 0, true), NONE);
        Check.due("count", x.count(10), 10);
        Check.due("no act", x.count(13), 0);
    }

    private static void onces() {
        LabelRoom x = Check.room("t:a;t:b;t:ab;ci1:ab;ci1:a-b>0;ci1:abcd;ci2f0:-a");
        Check.due("nothing gone: one row", x.once(0, -1), 1);
        Check.due("that of no digit", x.once(0, 0), 0);
        Check.due("no second", x.once(0, 1), NONE);
        Check.due("no such", x.once(0, -2), NONE);
        x.days(1);
        Check.due("144", x.once(0, -1), 144);
        Check.due("the first", x.once(0, 0), 0);
        Check.due("the last", x.once(0, 143), 143);
        Check.due("no more", x.once(0, 144), NONE);
        Check.due("three gone, like is one of them", x.once(1, -1), 1728);
        Check.due("the last of these", x.once(1, 1727), 1727);
        int[] four = {x.once(2, -1), x.once(2, 0), x.probe(2), x.saves(2, 0), x.saves(2, 1)};
        Check.dueRow("four gone", four, NONE, NONE, NONE, NONE, NONE);
        x.stood(2, 0, true);
        Check.due("it fitted ab", x.once(0, -1), 36);
        x.stood(0, 0, false);
        Check.due("it did not fit a", x.once(0, -1), 11);
        int[] rows = {x.once(0, 0), x.once(0, 1), x.once(0, 2), x.once(0, 3), x.once(0, 10), x.once(0, 11)};
        Check.dueRow("rows", rows, 1, 12, 13, 20, 133, NONE);
        Check.due("the other card", x.once(1, -1), 1728);
        Check.due("probe", x.probe(0), 1);
        int[] saves = {x.saves(0, 0), x.saves(0, 1), x.saves(0, 2), x.saves(0, -1), x.saves(4, 0), x.saves(-1, 1)};
        Check.dueRow("saves", saves, 13, 2, NONE, NONE, NONE, NONE);
        int[] wrong = {x.once(4, -1), x.once(-1, 0), x.probe(4), x.probe(-1)};
        Check.dueRow("no such card", wrong, NONE, NONE, NONE, NONE);
        x.stood(0, 0, true);
        int[] none = {x.once(0, -1), x.once(0, 0), x.probe(0), x.saves(0, 0), x.saves(0, 1)};
        Check.dueRow("no row", none, 0, NONE, NONE, NONE, NONE);
        // nothing gone, and what stood is at odds with the words that are left
        x.stood(0, 3, false);
        Check.due("so it was", x.once(3, -1), 1);
        Check.due("probe: all are as far apart", x.probe(3), 0);
        Check.due("saves: the row of no digit", x.saves(3, 0), 0);
        Check.due("saves: thing 1", x.saves(3, 1), 1);
        x.stood(1, 3, false);
        Check.due("so it was not", x.once(3, -1), 0);
    }

    private static void oncesOfLikes() {
        // the like that is left leads nowhere; it is left out
        LabelRoom x = Check.room("t:a;t:b;t:;t:abc;c:b-c>9");
        Check.tell(x, 1, "y:k=0?9");
        x.law(0);
        x.days(1);
        Check.due("one gone", x.count(11), 1);
        Check.due("rows", x.once(0, -1), 12);
        x.stood(0, 0, true);
        // true of a: has a, not b .. f; -c is left
        Check.due("rows of a", x.once(0, -1), 6);
        Check.due("the first", x.once(0, 0), 0);
        Check.due("the second", x.once(0, 1), 7);
        // thing 0 fits by 6 of 6, thing 1 by 4, thing 2 by 5, thing 3 never
        Check.due("probe", x.probe(0), 1);
        // not c is row 8 and so are d, e, f: things 0, 1, 2
        Check.due("saves", x.saves(0, 0), 8);
        Check.due("saves how many", x.saves(0, 1), 3);
        x.copy(0);
        Check.due("gone all the same", x.once(0, -1), 6);
    }

    private static void likesRound() {
        LabelRoom x = Check.room("t:;c:>1;c:>2;c:>1;c:>0>9;ci1:>4;c:a");
        Check.due("round", x.round(), 22);
        Check.due("nowhere", x.nowhere(), 8);
        x.lamp(4);
        Check.due("a like that is gone", x.round(), 6);
        LabelRoom y = Check.room("t:;c:>1;c:>2;c:>3;c:>4;c:>5;ci1:>0");
        Check.due("round by six", y.round(), 63);
        y.lamp(5);
        Check.due("round no more", y.round(), 0);
        LabelRoom z = Check.room("t:;c:>1;ci1:>2;c:>1>3;c:>6;c:>5");
        Check.due("round", z.round(), 6);
        Check.due("nowhere", z.nowhere(), 24);
        z.lamp(1);
        Check.due("round behind the lamp", z.round(), 0);
        LabelRoom w = Check.room("t:;ci1:>7;c:>1");
        Check.due("nowhere ahead of the lamp", w.nowhere(), 1);
        w.lamp(0);
        Check.due("nowhere behind it; a card without a thing is there", w.nowhere(), 0);
    }

    private static void forgeries() {
        LabelRoom x = Check.room("t:;c:a-a;c:a-b;c:ab-c-b;c:>0>0;ci1:f-f;c:aa");
        Check.due("forged", x.forged(), 21);
        x.lamp(4);
        Check.due("gone", x.forged(), 5);
        Check.tell(x, 1, "y:k*9");
        x.law(0);
        x.days(1);
        Check.due("one of both gone", x.forged(), 0);
    }

    private static void alones() {
        LabelRoom x = Check.room("t:ab;t:b;t:cd;c:a");
        int[] got = {x.alone(0), x.alone(1), x.alone(2), x.alone(3), x.alone(-1)};
        // a; has b and not a; not b (of -b, c and d the least)
        Check.dueRow("alone", got, 1, 3, 2, NONE, NONE);
        LabelRoom one = Check.room("t:ab;c:a");
        Check.due("no other thing", one.alone(0), 0);
        LabelRoom two = Check.room("t:ab;t:ab;t:;c:a");
        int[] twins = {two.alone(0), two.alone(1), two.alone(2)};
        Check.dueRow("with a twin", twins, NONE, NONE, 1);
        LabelRoom all = Check.room("t:;t:a;t:b;t:c;t:d;t:e;t:f;t:abcdef;c:a");
        int[] many = {all.alone(0), all.alone(1), all.alone(6), all.alone(7)};
        Check.dueRow("fewest, then least", many, 63, 3, 33, 3);
    }

    private static void suiting() {
        LabelRoom x = Check.room(StateTest.ROOM);
        int[] got = {x.suits(0), x.suits(1), x.suits(2), x.suits(3), x.suits(-1)};
        Check.dueRow("suits", got, 3, 1, 8, NONE, NONE);
        int[] wanted = {x.wanted(0), x.wanted(1), x.wanted(2), x.wanted(-1)};
        Check.dueRow("wanted", wanted, 1, 1, NONE, NONE);
        x.take(0);
        int[] then = {x.suits(1), x.wanted(0), x.wanted(1)};
        Check.dueRow("like nothing", then, 0, 1, 0);
        LabelRoom all = Check.room("t:;t:;t:;t:;t:;t:;t:;t:;c:-a;c:-b");
        Check.due("all suit", all.suits(1), 255);
        Check.due("all are wanted alike", all.wanted(0), 0);
        Check.due("by eight", all.wanted(1), 8);
        LabelRoom shared = Check.room("t:abf;t:bcf;t:;c:a");
        int[] marks = {shared.shared(0, 1), shared.shared(1, 0), shared.shared(0, 0), shared.shared(0, 2),
            shared.shared(0, 3), shared.shared(-1, 0), shared.shared(3, 0)};
        Check.dueRow("shared", marks, 34, 34, 35, 0, NONE, NONE, NONE);
    }

    private static void halves() {
        LabelRoom x = Check.room("t:;c:a-a;c:a-a>0;c:>0-a-b;c:a;c:-a");
        Check.due("none gone", x.perhaps(), 0);
        Check.tell(x, 1, "y:k=1?9;y:0");
        x.law(0);
        x.days(1);
        // one of two, one of three, two of three, none of one, one of one
        Check.due("half or more", x.perhaps(), 21);
    }

    private static void twinning() {
        LabelRoom x = Check.room("t:a;t:b;t:a;t:a;t:;tp3:b;c:a");
        int[] got = {x.twins(-1), x.twins(0), x.twins(1), x.twins(2), x.twins(3), x.twins(4), x.twins(-2)};
        Check.dueRow("twins", got, 4, 2, 3, 15, 23, NONE, NONE);
        LabelRoom none = Check.room("t:a;c:a");
        Check.due("no twins", none.twins(-1), 0);
        Check.due("no first", none.twins(0), NONE);
        LabelRoom all = Check.room("t:;t:;t:;t:;t:;t:;t:;t:;c:a");
        Check.due("all twins", all.twins(-1), 28);
        Check.due("the last", all.twins(27), 67);
    }

    private static void chances() {
        LabelRoom x = Check.room("t:;ci1:a;ci2:a-b;ci9:c");
        int[] got = {x.odds(0, 0, 100), x.odds(0, 1, 30), x.odds(0, 2, 30), x.odds(1, 2, 30), x.odds(0, 1, 100),
            x.odds(2, 8, 100), x.odds(2, 9, 100), x.odds(2, 30, 0)};
        Check.dueRow("odds", got, 1000000000, 700000000, 490000000, 910000000, 0, 1000000000, 0, 1000000000);
        // 33 by 100 of 670000000, of 448900000, of 300763000, of 201511210 (66498699.3, cut)
        Check.due("cut", x.odds(0, 5, 33), 135012511);
        int[] wrong = {x.odds(3, 1, 1), x.odds(-1, 1, 1), x.odds(0, -1, 1), x.odds(0, 31, 1), x.odds(0, 1, -1),
            x.odds(0, 1, 101)};
        Check.dueRow("refused", wrong, NONE, NONE, NONE, NONE, NONE, NONE);
        x.lamp(0);
        Check.due("no word left: none goes", x.odds(0, 30, 100), 1000000000);
        LabelRoom y = Check.room("t:;ci5:a-b>0");
        Check.tell(y, 1, "y:p*2+1");
        y.law(0);
        y.days(1);
        // inks 4, 2 and 0: the weakest that is left counts
        Check.due("the weakest left", y.odds(0, 2, 50), 750000000);
        Check.due("no day passes", y.count(6), 1);
    }

    private static void rescues() {
        LabelRoom x = Check.room("t:;ci3:a;ci2:b;ci2:c;ci1:d");
        Check.due("the weakest", x.rescue(1, 50), 3);
        x.lamp(3);
        Check.due("of those left the lowest", x.rescue(2, 50), 1);
        Check.due("all the same", x.rescue(1, 50), 0);
        Check.due("no day", x.rescue(0, 100), 0);
        Check.due("all of them go", x.rescue(30, 100), 0);
        int[] wrong = {x.rescue(-1, 1), x.rescue(31, 1), x.rescue(1, -1), x.rescue(1, 101)};
        Check.dueRow("refused", wrong, NONE, NONE, NONE, NONE);
        x.lamp(0);
        x.lamp(0);
        Check.due("card 0 now", x.rescue(1, 50), 0);
        x.days(3);
        Check.due("no word is left", x.rescue(1, 50), NONE);
    }

    /** Questions change nothing. */
    private static void apart() {
        LabelRoom x = Check.room(StateTest.ROOM);
        x.days(1);
        x.stood(0, 1, true);
        String seen = ActTest.look(x);
        for (int what = -1; what < 4; what++) {
            x.matched(what);
            x.blank(what);
            x.once(what, -1);
            x.probe(what);
            x.saves(what, 0);
            x.odds(what, 9, 40);
            x.suits(what);
            x.alone(what);
            x.wanted(what);
        }
        x.clash();
        x.rescue(9, 40);
        x.image();
        Check.due("as it was", ActTest.look(x).equals(seen), true);
        Check.due("acts", x.count(13), 1);
    }
}
