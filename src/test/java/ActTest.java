/** Promises 12 to 21, 42 and 43: acts, the log, what is undone, images. */
public final class ActTest {
    private static final int NONE = LabelRoom.NONE;

    public static void main(String[] args) {
        putting();
        taking();
        copying();
        lamps();
        lighting();
        writing();
        aDay();
        buying();
        chains();
        bounds();
        draws();
        cleanerAhead();
        undoing();
        undoingEach();
        logs();
        images();
        Check.finish("ActTest");
    }

    private static void putting() {
        LabelRoom x = Check.room("t:a;t:b;ct0:a;c:-a;c:c");
        int[] wrong = {x.put(0, 1), x.put(1, 0), x.put(2, 1), x.put(-1, 1), x.put(1, 3), x.put(1, -1),
            new LabelRoom().put(0, 0)};
        Check.dueRow("refused", wrong, NONE, NONE, NONE, NONE, NONE, NONE, NONE);
        Check.due("no act of these", x.count(13), 0);
        Check.due("put, though it does not fit", x.put(1, 2), 1);
        Check.due("it lies there", x.card(2, 1), 1);
        Check.due("put again", x.put(1, 1), NONE);
        Check.due("an act", x.count(13), 1);
    }

    private static void taking() {
        LabelRoom x = Check.room("t:a;t:b;ct1:a;c:-a");
        int[] wrong = {x.take(1), x.take(2), x.take(-1), new LabelRoom().take(0)};
        Check.dueRow("refused", wrong, NONE, NONE, NONE, NONE);
        Check.due("take", x.take(0), 1);
        Check.due("take again", x.take(0), NONE);
        Check.due("under none", x.thing(1, 2), NONE);
        Check.due("acts", x.count(13), 1);
    }

    private static void copying() {
        LabelRoom x = Check.room("s m2;t:a;c i2:a-b;c i1:c");
        Check.due("no such card", x.copy(2), NONE);
        Check.due("no such card -1", x.copy(-1), NONE);
        Check.due("no collection", new LabelRoom().copy(0), NONE);
        Check.due("copy", x.copy(0), 1);
        Check.due("ink", x.word(0, 0, 2), 9);
        Check.due("ink of the other word", x.word(0, 1, 2), 9);
        x.lamp(1);
        Check.due("no word left", x.copy(1), NONE);
        Check.due("not paid", x.count(8), 1);
        Check.due("copy again", x.copy(0), 0);
        Check.due("no money", x.copy(0), NONE);
        Check.due("acts", x.count(13), 3);
        // words that are gone stay so
        LabelRoom y = Check.room("t:;c i2:a-b");
        Check.tell(y, 1, "y:k*9");
        y.law(0);
        y.days(1);
        y.copy(0);
        Check.due("left", y.word(0, 0, 2), 9);
        Check.due("gone", y.word(0, 1, 2), 0);
    }

    private static void lamps() {
        LabelRoom x = Check.room("t:a;c i2:a-b;c i1:c");
        int[] wrong = {x.lamp(2), x.lamp(-1), new LabelRoom().lamp(0)};
        Check.dueRow("refused", wrong, NONE, NONE, NONE);
        Check.due("lamp", x.lamp(0), 2);
        Check.due("ink", x.word(0, 1, 2), 1);
        Check.due("the other card", x.word(1, 0, 2), 1);
        Check.due("lamp again", x.lamp(0), 0);
        Check.due("no word left", x.lamp(0), NONE);
        Check.due("gone", x.count(11), 2);
        Check.due("acts", x.count(13), 2);
        LabelRoom z = Check.room("t:;ci7:abcdef;ci3:abcdef;ci5:abcdef");
        z.lamp(1);
        z.copy(0);
        int[] inks = {z.word(0, 5, 2), z.word(1, 0, 2), z.word(1, 5, 2), z.word(2, 0, 2), z.word(2, 5, 2)};
        Check.dueRow("cards of six words", inks, 9, 2, 2, 5, 5);
        LabelRoom y = Check.room("t:;c i2:a-b-c");
        Check.tell(y, 1, "y:p");
        y.law(0);
        y.days(1);
        Check.due("one of two that are left goes", y.lamp(0), 1);
        Check.due("one that is gone stays at 0", y.word(0, 2, 2), 0);
        Check.due("the last", y.lamp(0), 0);
    }

    private static void lighting() {
        LabelRoom x = Check.room("s l4;t:a;c i9 f2:b");
        Check.due("no collection", new LabelRoom().light(3), false);
        Check.due("it is so", x.light(4), false);
        Check.due("-1", x.light(-1), false);
        Check.due("10", x.light(10), false);
        Check.due("0", x.light(0), true);
        Check.due("count", x.count(7), 0);
        x.days(2);
        Check.due("nothing fades", x.word(0, 0, 2), 9);
        Check.due("9", x.light(9), true);
        x.days(1);
        Check.due("it fades by 2", x.word(0, 0, 2), 7);
        Check.due("acts", x.count(13), 5);
    }

    private static void writing() {
        LabelRoom x = Check.room("t:a;ct0:a;c i3 f4:a-b>0");
        Check.due("no reading", x.write(1, 0), NONE);
        Check.tell(x, 2, ">7-c");
        Check.tell(x, 2, "abcdef");
        int[] wrong = {x.write(0, 0), x.write(2, 0), x.write(-1, 0), x.write(1, 2), x.write(1, -1),
            new LabelRoom().write(0, 0)};
        Check.dueRow("refused", wrong, NONE, NONE, NONE, NONE, NONE, NONE);
        Check.due("write", x.write(1, 0), 2);
        int[] got = {x.card(1, 2), x.word(1, 0, 0), x.word(1, 0, 1), x.word(1, 0, 2), x.word(1, 1, 0), x.word(1, 1, 1),
            x.word(1, 1, 2), x.word(1, 2, 0), x.card(1, 0)};
        Check.dueRow("anew", got, 2, 2, 7, 9, 1, 2, 9, NONE, 4);
        Check.due("write longer", x.write(1, 1), 6);
        Check.due("the last word", x.word(1, 5, 1), 5);
        Check.due("undo", x.undo(), 1);
        Check.due("two again", x.card(1, 2), 2);
        Check.due("undo again", x.undo(), 0);
        int[] old = {x.card(1, 2), x.word(1, 2, 0), x.word(1, 2, 1), x.word(1, 2, 2)};
        Check.dueRow("as it was", old, 3, 2, 0, 3);
        x.take(0);
        Check.due("without its thing", x.write(0, 1), 6);
    }

    private static void aDay() {
        LabelRoom x = Check.room(StateTest.ROOM);
        Check.due("days(1)", x.days(1), 1);
        int[] log = {x.log(0, 0), x.log(0, 1), x.log(0, 2)};
        Check.dueRow("log", log, 1, 1, 2);
        // card 1 has no word left and takes the cheapest, card 2 finds nothing that it fits
        int[] got = {x.card(0, 1), x.card(1, 1), x.card(2, 1), x.count(8), x.count(11), x.right(), x.perhaps()};
        Check.dueRow("behind it", got, 0, 3, NONE, 9, 2, 3, 2);
        int[] inks = {x.word(0, 0, 2), x.word(0, 1, 2), x.word(1, 0, 2), x.word(1, 1, 2), x.word(2, 0, 2)};
        Check.dueRow("inks", inks, 2, 2, 0, 0, 4);
        x.days(2);
        Check.due("card 0 is blank", x.word(0, 0, 2), 0);
        Check.due("it keeps its thing", x.card(0, 1), 0);
        Check.due("gone on that day", x.log(0, 2), 2);
        Check.due("gone on the day ahead", x.log(1, 2), 0);
    }

    private static void buying() {
        LabelRoom x = Check.room("s l0 m5;tp6:a;tp5:a;tp5:a;tp0:b;c:a;ct3:a;c:a");
        Check.due("day", x.days(1), 1);
        // thing 0 is too dear, of 1 and 2 the lowest comes; then there is no money for more
        int[] got = {x.card(0, 1), x.card(1, 1), x.card(2, 1), x.count(8), x.log(0, 0), x.log(0, 1)};
        Check.dueRow("bought", got, 1, 3, NONE, 0, 1, 2);
        LabelRoom y = Check.room("s l0;tp9:a;tp3:a;tp2:a;tp2:a;ct0:-a;c:a");
        y.days(1);
        int[] cheap = {y.card(0, 1), y.card(1, 1), y.count(8), y.log(0, 0), y.log(0, 1)};
        Check.dueRow("one that does not fit and finds nothing stays", cheap, 0, 2, 18, 1, 1);
        LabelRoom z = Check.room("s l0 m0;tp0:a;tp1:a;c:a");
        z.days(1);
        Check.due("for nothing", z.card(0, 1), 0);
        Check.due("no money is needed", z.count(8), 0);
    }

    private static void chains() {
        // what card 0 sends to the store, card 1 takes on the same day
        LabelRoom x = Check.room("s l0;t:a;t:b;ct0:b;c:a");
        x.days(1);
        int[] got = {x.card(0, 1), x.card(1, 1), x.count(8), x.log(0, 0), x.log(0, 1)};
        Check.dueRow("on the same day", got, 1, 0, 18, 2, 0);
        // but not card 0 what card 1 sends there
        LabelRoom y = Check.room("s l0;t:a;t:b;c:a;ct0:b");
        y.days(1);
        int[] first = {y.card(0, 1), y.card(1, 1), y.log(0, 0), y.log(0, 1)};
        Check.dueRow("first day", first, NONE, 1, 1, 1);
        y.days(1);
        Check.due("second day", y.card(0, 1), 0);
        Check.due("all right", y.log(0, 1), 0);
        // card 1 is like what lies under card 0 by then; card 0 is right until its like has left
        LabelRoom z = Check.room("s l0;t:a;t:ab;t:b;c:a;c:>0b;c:>1-a");
        z.days(1);
        int[] like = {z.card(0, 1), z.card(1, 1), z.card(2, 1), z.log(0, 0), z.right()};
        Check.dueRow("likes by numbers", like, 0, 1, 2, 3, 7);
        z.take(0);
        Check.due("like nothing", z.right(), 4);
        z.days(1);
        Check.due("again", z.right(), 7);
        LabelRoom w = Check.room("s l0;t:;t:c;c:>0");
        w.days(1);
        Check.due("like itself as if it lay there", w.card(0, 1), 1);
    }

    private static void bounds() {
        LabelRoom x = Check.room("t:;c:a");
        LabelRoom none = new LabelRoom();
        int[] wrong = {x.days(0), x.days(61), x.days(-1), none.days(1), x.decades(0, 1L), x.decades(61, 1L),
            x.decades(-1, 1L), none.decades(1, 1L)};
        Check.dueRow("refused", wrong, NONE, NONE, NONE, NONE, NONE, NONE, NONE, NONE);
        Check.due("no day", x.count(6), 0);
        Check.due("60", x.days(60), 60);
        Check.due("60 more", x.decades(60, Long.MIN_VALUE), 120);
        Check.due("log", x.count(12), 60);
        Check.due("acts", x.count(13), 40);
    }

    /** The draws of the document, once more. */
    private static final class Draws {
        private long x;

        Draws(long seed) {
            x = seed;
        }

        int draw(int m) {
            x = x * 6364136223846793005L + 1442695040888963407L;
            return (int) ((x >>> 33) % m);
        }
    }

    private static void draws() {
        long[] seeds = {0L, 1L, -1L, 77L, 123456789012345L, Long.MAX_VALUE, Long.MIN_VALUE};
        int[] cleaners = {0, 1, 35, 99};
        for (long seed : seeds) {
            for (int cleaner : cleaners) {
                LabelRoom x = Check.room("t:a;t:a;t:a;t:b;ct0f0:a;ct2f0:a;ct1f0:a;ct3f0:-a-c");
                x.cleaner(cleaner);
                x.light(0);
                Check.due("decades", x.decades(30, seed), 30);
                int[] under = {0, 2, 1, 3};
                Draws by = new Draws(seed);
                for (int day = 0; day < 30; day++) {
                    sweep(by, cleaner, under);
                }
                int[] got = {x.card(0, 1), x.card(1, 1), x.card(2, 1), x.card(3, 1)};
                Check.dueRow("seed " + seed + ", cleaner " + cleaner, got, under);
            }
        }
    }

    private static void sweep(Draws by, int cleaner, int[] under) {
        if (by.draw(100) < cleaner) {
            int one = by.draw(under.length);
            int other = by.draw(under.length);
            int moved = under[one];
            under[one] = under[other];
            under[other] = moved;
        }
    }

    private static void cleanerAhead() {
        // a place that is empty changes, too; and the day comes behind the cleaner
        LabelRoom x = Check.room("s m0l0;t:a;ct0:b;c:a");
        x.cleaner(99);
        long seed = 0L;
        for (long tried = 1; tried < 1000 && seed == 0; tried++) {
            Draws by = new Draws(tried);
            if (by.draw(100) < 99 && by.draw(2) != by.draw(2)) {
                seed = tried;
            }
        }
        Check.due("one day", x.decades(1, seed), 1);
        int[] got = {x.card(0, 1), x.card(1, 1), x.log(0, 0), x.log(0, 1), x.count(13)};
        Check.dueRow("moved to the empty place", got, NONE, 0, 0, 1, 1);
        Check.due("one act", x.undo(), 0);
        Check.due("back under card 0", x.card(0, 1), 0);
        Check.due("day", x.count(6), 0);
        x.cleaner(0);
        x.decades(5, seed);
        Check.due("no cleaner", x.card(0, 1), 0);
    }

    private static void undoing() {
        LabelRoom x = Check.room("s l1;t:a;c i9 f0 t0:a");
        Check.due("none", x.undo(), NONE);
        Check.due("no collection", new LabelRoom().undo(), NONE);
        Check.due("days", x.days(60), 60);
        for (int left = 39; left >= 0; left--) {
            Check.due("undo", x.undo(), left);
            Check.due("day", x.count(6), 20 + left);
        }
        Check.due("no more", x.undo(), NONE);
        Check.due("day", x.count(6), 20);
        Check.due("log", x.count(12), 20);
        for (int i = 1; i <= 45; i++) {
            x.light(i % 2 == 0 ? 1 : 2);
        }
        Check.due("40 at most", x.count(13), 40);
        x.light(7);
        Check.due("undo", x.undo(), 39);
        Check.due("light", x.count(7), 2);
        Check.due("put is told how many", x.take(0), 0);
        Check.due("put", x.put(0, 0), 40);
    }

    private static void undoingEach() {
        LabelRoom x = Check.room("s l3 m4;t:a;tp2:b;ct0i3:a;ci2:b-c;c:c");
        Check.tell(x, 2, "-a-b");
        String first = look(x);
        String[] seen = new String[9];
        for (int act = 0; act < 9; act++) {
            seen[act] = look(x);
            doAct(x, act);
            Check.due("act " + act, x.count(13), act + 1);
            Check.due("act " + act + " shows", look(x).equals(seen[act]), false);
        }
        for (int act = 8; act >= 0; act--) {
            Check.due("undo " + act, x.undo(), act);
            Check.due("as ahead of act " + act, look(x).equals(seen[act]), true);
        }
        Check.due("as at first", look(x).equals(first), true);
    }

    private static void doAct(LabelRoom x, int act) {
        switch (act) {
            case 0:
                x.put(1, 2);
                break;
            case 1:
                x.take(0);
                break;
            case 2:
                x.copy(1);
                break;
            case 3:
                x.lamp(0);
                break;
            case 4:
                x.light(8);
                break;
            case 5:
                x.write(1, 0);
                break;
            case 6:
                x.days(1);
                break;
            case 7:
                x.decades(1, 5L);
                break;
            default:
                x.lamp(2);
                break;
        }
    }

    /** All that acts can change, as a text. */
    static String look(LabelRoom x) {
        StringBuilder all = new StringBuilder();
        for (int card = 0; card < x.count(0); card++) {
            all.append(x.card(card, 1)).append('/').append(x.card(card, 2)).append(':');
            for (int place = 0; place < x.card(card, 2); place++) {
                all.append(x.word(card, place, 0)).append(',').append(x.word(card, place, 1)).append(',')
                    .append(x.word(card, place, 2)).append(' ');
            }
        }
        all.append(x.count(6)).append(' ').append(x.count(7)).append(' ').append(x.count(8)).append(" log");
        for (int i = 0; i < x.count(12); i++) {
            all.append(' ').append(x.log(i, 0)).append(',').append(x.log(i, 1)).append(',').append(x.log(i, 2));
        }
        return all.toString();
    }

    private static void logs() {
        LabelRoom x = Check.room("s l1 m1;tp1:a;tp1:b;ci3:a-b;ci1:b");
        int[] none = {x.log(0, 0), new LabelRoom().log(0, 0)};
        Check.dueRow("no log", none, NONE, NONE);
        x.days(1);
        x.days(3);
        // day 0: card 0 buys thing 0, card 1 goes blank; day 1 and 3: nothing; day 2: card 0 goes blank
        int[][] want = {{0, 1, 0}, {0, 1, 2}, {0, 1, 0}, {1, 1, 1}};
        for (int i = 0; i < 4; i++) {
            for (int what = 0; what < 3; what++) {
                Check.due("log(" + i + ", " + what + ")", x.log(i, what), want[i][what]);
            }
        }
        int[] wrong = {x.log(4, 0), x.log(-1, 0), x.log(0, -1), x.log(0, 3)};
        Check.dueRow("no such ones", wrong, NONE, NONE, NONE, NONE);
        x.days(56);
        Check.due("60 days: the first is the last one told", x.log(59, 0), 1);
        x.days(1);
        Check.due("61 days: it is told no more", x.log(59, 0), 0);
        Check.due("no 61st", x.log(60, 0), NONE);
        Check.due("undone", x.undo(), 39);
        Check.due("told again", x.log(59, 0), 1);
        x.days(39);
        for (int i = 0; i < 40; i++) {
            x.undo();
        }
        Check.due("40 undone", x.count(6), 59);
        Check.due("the first day", x.log(58, 0), 1);
        Check.due("no more", x.log(59, 0), NONE);
    }

    private static void images() {
        LabelRoom x = Check.room("s l3 m4;t:a;tp2:b;ct0i3:a;ci2:b-c;c:c");
        Check.tell(x, 2, "-a-b");
        Check.due("no image", x.back(), NONE);
        Check.due("no collection", new LabelRoom().image(), NONE);
        x.days(2);
        Check.due("image", x.image(), 2);
        Check.due("no act", x.count(13), 2);
        String seen = look(x);
        x.stood(0, 0, true);
        x.take(0);
        x.light(9);
        x.copy(0);
        x.write(0, 0);
        x.days(60);
        x.days(60);
        Check.due("back", x.back(), 2);
        Check.due("as it was", look(x).equals(seen), true);
        Check.due("no act can be undone", x.undo(), NONE);
        Check.due("what stood is kept", x.count(10), 1);
        x.days(1);
        Check.due("undo", x.undo(), 0);
        x.days(1);
        Check.due("back again", x.back(), 2);
        Check.due("as it was again", look(x).equals(seen), true);
        x.days(5);
        Check.due("another image", x.image(), 7);
        x.days(5);
        Check.due("back to that", x.back(), 7);
        Check.due("log", x.count(12), 7);
        Check.tell(x, 0, "t:;c:a");
        Check.due("no image of this one", x.back(), NONE);
        Check.due("image of this one", x.image(), 0);
        x.days(1);
        Check.due("back to this one", x.back(), 0);
    }
}
