import java.math.BigInteger;
import java.util.Arrays;

/** The bounds of ==== 4: DECADES by draws, the CLEANER, images. */
public final class BoundDecadeTest {
    private static final int NONE = LabelRoom.NONE;
    private static final int LEAST = Integer.MIN_VALUE;
    private static final int MOST = Integer.MAX_VALUE;
    private static final long[] SEEDS = {0L, 1L, -1L, 2L, 1L << 33, 1L << 62, 0x5555555555555555L, Long.MAX_VALUE,
        Long.MIN_VALUE, Long.MAX_VALUE - 1, Long.MIN_VALUE + 1};

    public static void main(String[] args) {
        decadeDays();
        cleanerBounds();
        drawBelow();
        goingRound();
        oneCard();
        unlike();
        oneMayBeNone();
        aheadOfTheDay();
        oneAct();
        imageKeeps();
        imageLog();
        images();
        Check.finish("BoundDecadeTest");
    }

    /** The draws as the document tells them, with numbers that do not go round by themselves. */
    private static final class Draws {
        private static final BigInteger TIMES = new BigInteger("6364136223846793005");
        private static final BigInteger AND = new BigInteger("1442695040888963407");
        private static final BigInteger ALL = BigInteger.ONE.shiftLeft(64);
        private BigInteger x;

        Draws(long seed) {
            x = BigInteger.valueOf(seed).mod(ALL);
        }

        int draw(int m) {
            x = x.multiply(TIMES).add(AND).mod(ALL);
            return x.shiftRight(33).mod(BigInteger.valueOf(m)).intValueExact();
        }
    }

    /** Things that lie under cards that fit all of them, so that only the cleaner moves them. */
    private static LabelRoom still(int cards, int things) {
        StringBuilder text = new StringBuilder("sl0m0");
        for (int thing = 0; thing < things; thing++) {
            text.append(";t:");
        }
        for (int card = 0; card < cards; card++) {
            text.append(card < things ? ";ct" + card : ";c").append(card < things ? ":-a" : ":a");
        }
        return Check.room(text.toString());
    }

    private static int[] under(LabelRoom x) {
        int[] row = new int[x.count(0)];
        for (int card = 0; card < row.length; card++) {
            row[card] = x.card(card, 1);
        }
        return row;
    }

    private static void decadeDays() {
        Check.sentence("DECADES by a seed: n (1 .. 60) DAYS");
        LabelRoom x = still(2, 2);
        int[] no = {x.decades(0, 1L), x.decades(-1, 1L), x.decades(61, 1L), x.decades(LEAST, 1L), x.decades(MOST, 1L),
            x.count(6), x.count(12), x.count(13)};
        Check.dueRow("refused", no, NONE, NONE, NONE, NONE, NONE, 0, 0, 0);
        int[] yes = {x.decades(1, 1L), x.decades(60, 1L), x.decades(59, 1L), x.count(6), x.count(12), x.count(13)};
        Check.dueRow("1, 60, 59", yes, 1, 61, 120, 120, 60, 40);
        Check.sentence("decades: NONE: no COLLECTION");
        Check.due("decades", new LabelRoom().decades(1, 1L), NONE);
        Check.due("days", new LabelRoom().days(1), NONE);
    }

    private static void cleanerBounds() {
        Check.sentence("CLEANER (0 .. 99; 0 at first) .. False: out of bounds, it is so");
        LabelRoom x = new LabelRoom();
        Check.due("at first", x.count(9), 0);
        Check.due("0 is so", x.cleaner(0), false);
        int[] wrong = {-1, 100, LEAST, MOST};
        for (int v : wrong) {
            Check.due("cleaner(" + v + ")", x.cleaner(v), false);
            Check.due("as it was", x.count(9), 0);
        }
        int[] right = {1, 98, 99, 0};
        for (int v : right) {
            Check.due("cleaner(" + v + ")", x.cleaner(v), true);
            Check.due("it is so", x.cleaner(v), false);
            Check.due("CLEANER", x.count(9), v);
        }
    }

    private static void decade(int cleaner, int cards, int things, long seed, int n) {
        LabelRoom x = still(cards, things);
        x.cleaner(cleaner);
        x.decades(n, seed);
        int[] want = under(still(cards, things));
        Draws by = new Draws(seed);
        for (int day = 0; day < n; day++) {
            if (by.draw(100) < cleaner) {
                int one = by.draw(cards);
                int other = by.draw(cards);
                int moved = want[one];
                want[one] = want[other];
                want[other] = moved;
            }
        }
        Check.dueRow("cleaner " + cleaner + ", " + cards + " cards, seed " + seed, under(x), want);
    }

    private static void drawBelow() {
        Check.sentence("ahead of each a draw of 100 below CLEANER");
        // with a cleaner of just the draw nothing moves, with one more it does
        int tried = 0;
        for (long seed = 1; seed < 400 && tried < 20; seed++) {
            Draws by = new Draws(seed);
            int drawn = by.draw(100);
            int one = by.draw(3);
            int other = by.draw(3);
            if (one != other && drawn < 99) {
                tried++;
                LabelRoom x = still(3, 3);
                x.cleaner(drawn);
                x.decades(1, seed);
                Check.dueRow("draw " + drawn + " is not below it", under(x), 0, 1, 2);
                LabelRoom y = still(3, 3);
                y.cleaner(drawn + 1);
                y.decades(1, seed);
                Check.due("draw " + drawn + " is below it", y.card(one, 1), other);
                Check.due("draw " + drawn + " is below it", y.card(other, 1), one);
            }
        }
        Check.due("tried", tried, 20);
        Check.sentence("CLEANER .. 0");
        for (long seed : SEEDS) {
            LabelRoom x = still(3, 3);
            x.decades(60, seed);
            Check.dueRow("no cleaner, seed " + seed, under(x), 0, 1, 2);
        }
    }

    private static void goingRound() {
        Check.sentence("x .. becomes x times 6364136223846793005 and 1442695040888963407 (64 bits, going round); a draw of m: (x shifted right by 33, without sign) modulo m");
        int[] cleaners = {1, 50, 99};
        for (long seed : SEEDS) {
            for (int cleaner : cleaners) {
                for (int cards = 2; cards <= 6; cards++) {
                    decade(cleaner, cards, cards, seed, 60);
                }
            }
        }
        Check.sentence("x, at first the seed");
        LabelRoom one = still(6, 6);
        LabelRoom two = still(6, 6);
        one.cleaner(99);
        two.cleaner(99);
        one.decades(3, 7L);
        one.decades(3, 7L);
        two.decades(6, 7L);
        Draws by = new Draws(7L);
        int[] want = {0, 1, 2, 3, 4, 5};
        for (int day = 0; day < 6; day++) {
            by = day == 3 ? new Draws(7L) : by;
            if (by.draw(100) < 99) {
                int a = by.draw(6);
                int b = by.draw(6);
                int moved = want[a];
                want[a] = want[b];
                want[b] = moved;
            }
        }
        Check.dueRow("the seed anew", under(one), want);
        Check.due("unlike six days in a row", Arrays.equals(under(one), under(two)), false);
    }

    private static void oneCard() {
        Check.sentence("draws of how many CARDS there are");
        LabelRoom x = still(1, 1);
        x.cleaner(99);
        Check.due("one CARD", x.decades(60, 5L), 60);
        Check.dueRow("it stays", under(x), 0);
        decade(99, 6, 6, 12345L, 60);
    }

    private static void unlike() {
        Check.sentence("if they are unlike, THINGS under both change places");
        int alike = 0;
        for (long seed = 1; seed < 200; seed++) {
            Draws by = new Draws(seed);
            if (by.draw(100) < 99 && by.draw(2) == by.draw(2)) {
                alike++;
                LabelRoom x = still(2, 2);
                x.cleaner(99);
                x.decades(1, seed);
                Check.dueRow("alike", under(x), 0, 1);
            }
        }
        Check.due("some are alike", alike > 50, true);
    }

    private static void oneMayBeNone() {
        Check.sentence("(one may be none)");
        // card 1 FITS nothing that is there, so nothing is bought; what lies under it stays
        for (long seed : SEEDS) {
            decade(99, 2, 1, seed, 1);
            decade(99, 3, 1, seed, 1);
        }
        // both are none
        LabelRoom x = Check.room("sl0m0;t:a;c:b;c:b");
        x.cleaner(99);
        x.decades(60, 3L);
        Check.dueRow("both are none", under(x), NONE, NONE);
    }

    private static void aheadOfTheDay() {
        Check.sentence("ahead of each");
        long seed = 0;
        for (long tried = 1; seed == 0; tried++) {
            Draws by = new Draws(tried);
            if (by.draw(100) < 99 && by.draw(2) != by.draw(2)) {
                seed = tried;
            }
        }
        // the cleaner moves both to where they do not fit; by its day each finds nothing in the store
        LabelRoom x = Check.room("sl0;t:a;t:b;ct0:a;ct1:b");
        x.cleaner(99);
        x.decades(1, seed);
        int[] got = {x.card(0, 1), x.card(1, 1), x.log(0, 0), x.log(0, 1), x.right()};
        Check.dueRow("both are wrong on that day already", got, 1, 0, 0, 2, 0);
        LabelRoom y = Check.room("sl0;t:a;t:b;t:a;t:b;ct0:a;ct1:b");
        y.cleaner(99);
        y.decades(1, seed);
        int[] bought = {y.card(0, 1), y.card(1, 1), y.log(0, 0), y.log(0, 1), y.count(8)};
        // card 0 has 1 and buys 2; card 1 has 0, and of 1 and 3 the lowest comes
        Check.dueRow("both are changed on that day", bought, 2, 1, 2, 0, 18);
    }

    private static void oneAct() {
        Check.sentence("Each DAY with what is ahead of it is one ACT");
        LabelRoom x = still(4, 4);
        x.cleaner(99);
        int[][] seen = new int[11][];
        seen[0] = under(x);
        for (int day = 1; day <= 10; day++) {
            LabelRoom then = still(4, 4);
            then.cleaner(99);
            then.decades(day, 99L);
            seen[day] = under(then);
        }
        x.decades(10, 99L);
        Check.due("acts", x.count(13), 10);
        for (int day = 9; day >= 0; day--) {
            Check.due("undo", x.undo(), day);
            Check.due("DAY", x.count(6), day);
            Check.dueRow("as behind day " + day, under(x), seen[day]);
        }
        x.decades(60, 99L);
        Check.due("40 at most", x.count(13), 40);
    }

    private static void imageKeeps() {
        Check.sentence("An IMAGE keeps INK, WORDS, what lies where, LIGHT, MONEY, the DAY, the LOG; BACK: they are so again");
        LabelRoom x = Check.room("sl3m9;t:a;tp2:b;t:c;ct0i5:a-b;ci3:b>0;c:c");
        Check.tell(x, 1, "y:1");
        Check.tell(x, 2, "abcdef");
        x.days(2);
        int[] ahead = {x.image(), x.count(6)};
        Check.dueRow("image", ahead, 2, 2);
        String seen = Sight.all(x);
        Check.due("an IMAGE is no act", x.count(13), 2);
        // the last of the counts is how many acts can be undone
        String withoutActs = seen.replaceFirst("(counts( \\S+){13}) 2", "$1 0");
        x.lamp(0);
        x.copy(1);
        x.take(2);
        x.write(2, 0);
        x.light(0);
        x.days(60);
        x.decades(60, 4L);
        Check.due("back", x.back(), 2);
        Check.due("as it was", Sight.all(x), withoutActs);
        Check.sentence("(no ACT can be UNDONE then)");
        int[] none = {x.count(13), x.undo()};
        Check.dueRow("acts", none, 0, NONE);
        x.light(5);
        int[] one = {x.count(13), x.undo(), x.undo(), x.count(7)};
        Check.dueRow("an act behind it", one, 1, 0, NONE, 3);
        Check.sentence("BACK: what no IMAGE keeps stays");
        x.law(0);
        x.cleaner(8);
        x.stood(0, 0, true);
        x.back();
        int[] kept = {x.count(2), x.count(3), x.count(5), x.count(9), x.count(10)};
        Check.dueRow("LAWS, READINGS, CLEANER, STOOD", kept, 1, 1, 0, 8, 1);
    }

    private static void imageLog() {
        Check.sentence("An IMAGE keeps .. the LOG");
        // six WORDS go GONE on day 0, five on day 1, and so on
        LabelRoom x = Check.room("t:;ci9:abcdef;ci9:abcde;ci9:abcd;ci9:abc;ci9:ab;ci9:a");
        x.law(Check.tell(x, 1, "y:d=p?9;y:0"));
        x.days(60);
        x.image();
        x.days(60);
        x.days(60);
        x.days(20);
        Check.due("back", x.back(), 60);
        int[] log = {x.count(12), x.log(59, 2), x.log(58, 2), x.log(57, 2), x.log(54, 2), x.log(53, 2), x.log(60, 2)};
        Check.dueRow("the LOG of 60 DAYS", log, 60, 6, 5, 4, 1, 0, NONE);
        x.days(1);
        int[] then = {x.count(12), x.log(59, 2), x.log(58, 2), x.log(54, 2)};
        Check.dueRow("a DAY later", then, 60, 5, 4, 0);
        x.undo();
        int[] again = {x.log(59, 2), x.log(58, 2)};
        Check.dueRow("undone", again, 6, 5);
        LabelRoom y = Check.room("t:;ci1:a");
        y.image();
        y.days(60);
        y.back();
        int[] none = {y.count(12), y.log(0, 2), y.days(1), y.log(0, 2), y.log(1, 2)};
        Check.dueRow("an IMAGE without a LOG", none, 0, NONE, 1, 1, NONE);
    }

    private static void images() {
        Check.sentence("image: An IMAGE (instead of the one ahead): the DAY. NONE: no COLLECTION");
        LabelRoom x = new LabelRoom();
        int[] no = {x.image(), x.back()};
        Check.dueRow("no COLLECTION", no, NONE, NONE);
        Check.tell(x, 0, "t:;c:a");
        Check.due("back: no IMAGE", x.back(), NONE);
        int[] first = {x.image(), x.back(), x.back()};
        Check.dueRow("of day 0, back twice", first, 0, 0, 0);
        x.days(60);
        int[] second = {x.image(), x.days(60), x.image(), x.days(1), x.back(), x.back()};
        Check.dueRow("instead of the one ahead", second, 60, 120, 120, 121, 120, 120);
        Check.sentence("back: NONE: no IMAGE of this COLLECTION");
        Check.tell(x, 0, "t:;c:a");
        int[] other = {x.back(), x.count(6)};
        Check.dueRow("another COLLECTION, though told alike", other, NONE, 0);
        x.image();
        Check.tape(x, "t:;c:");
        Check.due("a FAULT", x.text(0), NONE);
        Check.due("the IMAGE is kept", x.back(), 0);
        Check.tell(x, 1, "y:1");
        Check.tell(x, 2, "a");
        Check.due("a LAW and a READING leave it alone", x.back(), 0);
    }
}
