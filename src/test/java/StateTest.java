import java.util.NoSuchElementException;

/** Promises 6 to 11 and 44: what is there, laws and the cleaner, and what fits. */
public final class StateTest {
    private static final int NONE = LabelRoom.NONE;
    static final String ROOM = "s l2 m10; t p3:ab; t p2:a; t p2:ac; t:;"
        + "c i3 f1 t0:a-c; c i1 f2:b>0; c:-a-b";

    public static void main(String[] args) {
        things();
        cards();
        words();
        holding();
        worths();
        letters();
        cleaning();
        fitting();
        likes();
        counts();
        Check.finish("StateTest");
    }

    private static void refused(LabelRoom x, int thing, int what) {
        boolean thrown = false;
        try {
            x.thing(thing, what);
        } catch (NoSuchElementException e) {
            thrown = true;
        }
        Check.due("thing(" + thing + ", " + what + ") throws", thrown, true);
    }

    private static void things() {
        LabelRoom x = Check.room(ROOM);
        int[] got = {x.thing(0, 0), x.thing(0, 1), x.thing(0, 2), x.thing(1, 0), x.thing(1, 1), x.thing(1, 2),
            x.thing(2, 1), x.thing(3, 0), x.thing(3, 1)};
        Check.dueRow("things", got, 3, 3, 0, 2, 1, NONE, 5, 1, 0);
        refused(x, -1, 0);
        refused(x, 4, 0);
        refused(x, 8, 0);
        refused(x, 0, -1);
        refused(x, 0, 3);
        refused(x, Integer.MAX_VALUE, Integer.MIN_VALUE);
        refused(new LabelRoom(), 0, 0);
        x.take(0);
        Check.due("taken", x.thing(0, 2), NONE);
        x.put(2, 2);
        Check.due("put", x.thing(2, 2), 2);
        LabelRoom all = Check.room("t:f;t:abcdef;c:a");
        Check.due("f", all.thing(0, 1), 32);
        Check.due("all", all.thing(1, 1), 63);
    }

    private static void cards() {
        LabelRoom x = Check.room(ROOM);
        int[] got = {x.card(0, 0), x.card(0, 1), x.card(0, 2), x.card(0, 3), x.card(1, 0), x.card(1, 1),
            x.card(1, 2), x.card(1, 3), x.card(2, 0), x.card(2, 3)};
        Check.dueRow("cards", got, 1, 0, 2, 1, 2, NONE, 2, 0, 1, 0);
        int[] wrong = {x.card(-1, 0), x.card(3, 0), x.card(0, -1), x.card(0, 4), x.card(6, 2),
            new LabelRoom().card(0, 2)};
        Check.dueRow("no such cards", wrong, NONE, NONE, NONE, NONE, NONE, NONE);
        x.take(0);
        x.put(2, 0);
        Check.due("has c, so it does not fit", x.card(0, 3), 0);
    }

    private static void words() {
        LabelRoom x = Check.room(ROOM);
        int[] got = {x.word(0, 0, 0), x.word(0, 0, 1), x.word(0, 0, 2), x.word(0, 1, 0), x.word(0, 1, 1),
            x.word(1, 0, 1), x.word(1, 1, 0), x.word(1, 1, 1), x.word(1, 1, 2), x.word(2, 1, 1), x.word(2, 1, 2)};
        Check.dueRow("words", got, 0, 0, 3, 1, 2, 1, 2, 0, 1, 1, 5);
        int[] wrong = {x.word(-1, 0, 0), x.word(3, 0, 0), x.word(0, -1, 0), x.word(0, 2, 0), x.word(0, 0, -1),
            x.word(0, 0, 3), new LabelRoom().word(0, 0, 0)};
        Check.dueRow("no such words", wrong, NONE, NONE, NONE, NONE, NONE, NONE, NONE);
    }

    private static void holding() {
        LabelRoom x = new LabelRoom();
        Check.due("law(-1)", x.law(NONE), true);
        Check.due("law(0) that is not there", x.law(0), false);
        Check.due("law(-2)", x.law(-2), false);
        Check.tell(x, 1, "y:2");
        Check.tell(x, 1, "y:3");
        Check.due("none holds yet", x.count(5), NONE);
        Check.due("law(1)", x.law(1), true);
        Check.due("law(1) again", x.law(1), true);
        Check.due("law(2)", x.law(2), false);
        Check.due("1 holds", x.count(5), 1);
        Check.tell(x, 0, "s l0; t:; c i9 f1:a");
        x.days(1);
        Check.due("by law 1, without light, too", x.word(0, 0, 2), 6);
        x.law(0);
        x.days(1);
        Check.due("by law 0", x.word(0, 0, 2), 4);
        Check.due("law(-1) again", x.law(NONE), true);
        x.days(1);
        Check.due("by no law and without light", x.word(0, 0, 2), 4);
        x.light(3);
        x.days(1);
        Check.due("by no law", x.word(0, 0, 2), 3);
    }

    /** How much a word of ink 9 at place 0 loses on day 0 by a law. */
    private static void worth(String law, int want) {
        LabelRoom x = Check.room("s l2; t:; c i9 f3:a");
        Check.tell(x, 1, law);
        x.law(0);
        x.days(1);
        Check.due("loss by " + law, 9 - x.word(0, 0, 2), want);
    }

    private static void worths() {
        worth("y:0", 0);
        worth("y:8", 8);
        worth("y:100", 9);
        worth("y:0-5", 0);
        worth("y:1+2*3", 7);
        worth("y:2*3+1", 7);
        worth("y:9-2-3", 4);
        worth("y:9-[2-3]-6", 4);
        worth("y:8/2*2", 8);
        worth("y:2*7/3", 4);
        worth("y:1+8/4-1", 2);
        worth("y:1+2*3-4/2*2+1", 4);
        worth("y:[1+2]*[3-1]", 6);
        worth("y:7/2", 3);
        worth("y:[0-7]/2+9", 6);
        worth("y:7/[0-2]+9", 6);
        worth("y:5/0+1", 1);
        worth("y:0/0", 0);
        worth("y:9999*9999/1000-996", 4);
        worth("y:[0-9999]*9999/1000+1003", 3);
        worth("y:9999*100+9999*100-9999*99-9999-99", 1);
        worth("y:[0-9999*100]-9999*100+9999*100+102", 2);
        worth("y:1=1?3;y:5", 3);
        worth("y:1=2?3;y:5", 5);
        worth("y:1=2?3", 0);
        worth("y:1=2?3;y:1=3?4;y:1<3?6;y:7", 6);
        worth("y:2;y:3", 2);
        worth("y:1<1?3;y:1>1?4;y:1=1?5", 5);
        worth("y:1<2?3", 3);
        worth("y:2>1?3", 3);
        worth("y:1=1|1=1&1=2?3;y:5", 3);
        worth("y:1=2&1=1|1=1?3;y:5", 3);
        worth("y:(1=1|1=1)&1=2?3;y:5", 5);
        worth("y:1=2|1=2|1=1?3;y:5", 3);
        worth("y:1=1&1=1&1=2?3;y:5", 5);
        worth("y:1=1&1=2|1=1&1=1|1=2?3;y:5", 3);
        worth("y:!1=2&1=2?3;y:5", 5);
        worth("y:!(1=2&1=2)?3;y:5", 3);
        worth("y:!!1=1?3;y:5", 3);
        worth("y:!!!1=1?3;y:5", 5);
        worth("y:1+1=2*1?1+1;y:5", 2);
        worth("y:((((((1=1))))))&[[[[[[1]]]]]]=1?[[[[[[4]]]]]]", 4);
        worth("y:1=1|(1=1|(1=1|(1=1|(1=1|(1=1|1=1+[0])))))?1+1*[1+1*1]", 3);
    }

    private static void letters() {
        worth("y:i-1", 8);
        worth("y:f", 3);
        worth("y:l", 2);
        worth("y:p", 0);
        worth("y:k", 0);
        worth("y:d", 0);
        LabelRoom x = Check.room("t:; c i9:a-a>0b-b>0");
        Check.tell(x, 1, "y:p");
        Check.tell(x, 1, "y:k*2");
        Check.tell(x, 1, "y:d");
        x.law(0);
        x.days(1);
        inks("by places", x, 9, 8, 7, 6, 5, 4);
        x.law(1);
        x.days(1);
        inks("by sorts", x, 9, 6, 3, 6, 3, 0);
        Check.due("gone", x.count(11), 1);
        x.law(2);
        x.days(1);
        inks("by the day, which was 2", x, 7, 4, 1, 4, 1, 0);
        x.days(1);
        inks("by the day, which was 3", x, 4, 1, 0, 1, 0, 0);
        Check.due("gone in all", x.count(11), 3);
        Check.due("gone on that day", x.log(0, 2), 2);
    }

    private static void inks(String when, LabelRoom x, int... want) {
        int[] got = new int[want.length];
        for (int place = 0; place < want.length; place++) {
            got[place] = x.word(0, place, 2);
        }
        Check.dueRow(when, got, want);
    }

    private static void cleaning() {
        LabelRoom x = new LabelRoom();
        Check.due("cleaner(0) is so", x.cleaner(0), false);
        Check.due("cleaner(-1)", x.cleaner(-1), false);
        Check.due("cleaner(100)", x.cleaner(100), false);
        Check.due("cleaner(99)", x.cleaner(99), true);
        Check.due("cleaner(99) again", x.cleaner(99), false);
        Check.due("count", x.count(9), 99);
        Check.due("cleaner(0)", x.cleaner(0), true);
        Check.due("count 0", x.count(9), 0);
    }

    private static void fitting() {
        LabelRoom x = Check.room(ROOM);
        int[] first = {x.fits(0, 0), x.fits(0, 1), x.fits(0, 2), x.fits(0, 3)};
        Check.dueRow("card 0", first, 1, 1, 0, 0);
        // thing 0 is like itself, as it lies under card 0
        int[] second = {x.fits(1, 0), x.fits(1, 1), x.fits(1, 2), x.fits(1, 3)};
        Check.dueRow("card 1", second, 1, 0, 0, 0);
        int[] third = {x.fits(2, 0), x.fits(2, 1), x.fits(2, 2), x.fits(2, 3)};
        Check.dueRow("card 2", third, 0, 0, 0, 1);
        int[] wrong = {x.fits(-1, 0), x.fits(3, 0), x.fits(0, -1), x.fits(0, 4), new LabelRoom().fits(0, 0)};
        Check.dueRow("no such ones", wrong, NONE, NONE, NONE, NONE, NONE);
        x.lamp(1);
        Check.due("all words gone: it fits anything", x.fits(1, 3), 1);
    }

    private static void likes() {
        LabelRoom x = Check.room("t:a;t:b;t:ab;t:;c:>0;c:>0;c:>1>2;c:>3;c:>9");
        int[] itself = {x.fits(0, 0), x.fits(0, 3)};
        Check.dueRow("like itself: any with a mark", itself, 1, 0);
        Check.due("like a card without a thing", x.fits(1, 0), 0);
        x.put(0, 0);
        int[] other = {x.fits(1, 0), x.fits(1, 1), x.fits(1, 2), x.fits(1, 3), x.fits(0, 1)};
        Check.dueRow("like a card with a thing", other, 1, 0, 1, 0, 1);
        Check.due("card 1 has none yet", x.fits(2, 2), 0);
        x.put(1, 1);
        int[] two = {x.fits(2, 0), x.fits(2, 1), x.fits(2, 2), x.fits(2, 3)};
        Check.dueRow("like card 1 and itself", two, 0, 1, 1, 0);
        Check.due("like a card that is not there", x.fits(4, 2), 0);
        Check.due("right", x.right(), 1);
        x.put(3, 3);
        Check.due("a thing without marks is not like itself", x.card(3, 3), 0);
    }

    private static void counts() {
        LabelRoom x = Check.room(ROOM);
        Check.tell(x, 1, "y:0");
        Check.tell(x, 2, "a");
        Check.tell(x, 2, "b");
        Check.feed(x, "abc");
        x.cleaner(4);
        x.stood(0, 0, false);
        x.lamp(1);
        x.law(0);
        x.days(2);
        int[] got = new int[14];
        for (int what = 0; what < 14; what++) {
            got[what] = x.count(what);
        }
        Check.dueRow("counts", got, 3, 4, 1, 2, 3, 0, 2, 2, 9, 4, 1, 2, 2, 3);
        Check.due("count(-1)", x.count(-1), LabelRoom.HIDDEN);
        Check.due("count(14)", x.count(14), LabelRoom.HIDDEN);
        Check.due("count(max)", x.count(Integer.MAX_VALUE), LabelRoom.HIDDEN);
    }
}
