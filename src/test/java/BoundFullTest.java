/** Rooms of every size up to the fullest, and a small one told behind a full one: nothing of it may show through. */
public final class BoundFullTest {
    private static final int NONE = LabelRoom.NONE;
    private static final String[] MARKS = {"abcdef", "", "ab", "bc", "f", "ace", "ab", "de"};
    private static final String[] WORDS = {"a", "-b", ">0", "c", "-d", ">6", "f", "-a", ">1", "b"};
    private static final String FULL = "sl9m99;tp9:abcdef;tp9:;tp9:ab;tp9:bc;tp9:f;tp9:ace;tp9:ab;tp9:de;"
        + "ci9f9t7:>0>1>2>3>4>5;ci8t6:>1-aa>6>0f;ci7t5:>2-bb>7>1e;ci1t4:>3-cc>8>2d;ci2t3:>4-dd>9>3c;ci3t2:>5-ee>0>4b";

    public static void main(String[] args) {
        cutShort();
        justBehindTheLast();
        sixWordsOfTheLastCard();
        sizes();
        smallBehindFull();
        shorterWords();
        rowsBehindTheLast();
        Check.finish("BoundFullTest");
    }

    private static void cutShort() {
        Check.sentence("the length, if it ends too early: a CLAUSE behind a whole COLLECTION that is cut short");
        String whole = "t:;c:a;";
        String[] clauses = {"sl1m1", "tp1:", "ci1f1t8:-a"};
        // of a CLAUSE so many signs are enough: s, sl1, sl1m1; tp1:; all of the CARD's
        String[] enough = {"1 3 5", "4", "10"};
        for (int i = 0; i < clauses.length; i++) {
            for (int n = 0; n <= clauses[i].length(); n++) {
                boolean sound = (" " + enough[i] + " ").contains(" " + n + " ");
                String text = whole + clauses[i].substring(0, n);
                Check.fault(0, text, sound ? NONE : text.length());
                Check.fault(0, text + "  ", sound ? NONE : text.length() + 2);
            }
        }
        Check.fault(0, "t:;c:a;t", 8);
        Check.fault(0, "t:;c:a;c", 8);
        Check.fault(0, "t:;c:a;c:", 9);
        Check.fault(0, "t:;c:a;c:>", 10);
        Check.sentence("the length, if it ends too early: a CLAUSE behind a whole LAW that is cut short");
        String law = "y:[i]=1&!(f<2|l>3)?4*[5]";
        for (int n = 0; n <= law.length(); n++) {
            String text = "y:1;" + law.substring(0, n);
            // a SUM alone is enough, and so is what stands behind ?
            boolean sound = n == law.indexOf("=") || n == law.indexOf("*") || n == law.length();
            Check.fault(1, text, sound ? NONE : text.length());
        }
    }

    private static void justBehindTheLast() {
        Check.sentence("(A > to a CARD that is not there is no FAULT: it leads nowhere.)");
        for (int cards = 1; cards <= 6; cards++) {
            LabelRoom x = Check.room("t:a;t:ab" + (";c:>" + cards).repeat(cards - 1) + ";ct0:>" + cards);
            int last = cards - 1;
            int[] got = {x.fits(last, 0), x.fits(last, 1), x.suits(last), x.right(), x.card(last, 3), x.matched(1),
                x.clash(), x.nowhere(), x.round()};
            Check.dueRow(cards + " cards", got, 0, 0, 0, 0, 0, 0, 1, (1 << cards) - 1, 0);
            x.days(1);
            Check.due("nothing FITS it", x.log(0, 0), 0);
        }
    }

    private static void sixWordsOfTheLastCard() {
        Check.sentence("CARDS 6, WORDS 6: the very last WORD");
        LabelRoom x = Check.room("t:f;ci9:abcdef;ci9:abcdef;ci9:abcdef;ci9:abcdef;ci9:abcdef;ct0i2:abcdef");
        int[] got = {x.word(5, 5, 2), x.odds(5, 2, 100), x.odds(5, 1, 100), x.odds(4, 8, 100), x.rescue(2, 50), x.blank(5),
            x.copy(5), x.word(5, 5, 2), x.lamp(5), x.word(5, 5, 2), x.word(5, 6, 2)};
        Check.dueRow("the last CARD", got, 2, 0, 1000000000, 1000000000, 5, 2, 19, 9, 6, 8, NONE);
        x.law(Check.tell(x, 1, "y:p<5?9;y:0"));
        x.days(1);
        int[] left = {x.fits(5, 0), x.card(5, 3), x.count(11), x.perhaps(), x.once(5, NONE), x.odds(5, 8, 100),
            x.odds(5, 7, 100)};
        Check.dueRow("its last WORD alone is left", left, 1, 1, 30, 63, NONE, 0, 1000000000);
    }

    private static String text(int things, int cards, int words) {
        StringBuilder text = new StringBuilder("sl3m9");
        for (int thing = 0; thing < things; thing++) {
            text.append(";tp").append((thing * 7 + 3) % 10).append(':').append(MARKS[thing]);
        }
        for (int card = 0; card < cards; card++) {
            text.append(";ci").append(1 + (card * 4 + words) % 9).append('t').append(card < things ? card : 8).append(':');
            for (int place = 0; place < words; place++) {
                text.append(WORDS[(card * 3 + place) % WORDS.length]);
            }
        }
        return text.toString();
    }

    private static void sizes() {
        Check.sentence("THINGS 1 .. 8, CARDS 1 .. 6, WORDS 1 .. 6");
        for (int things = 1; things <= 8; things++) {
            for (int cards = 1; cards <= 6; cards++) {
                int words = 1 + (things + cards) % 6;
                Both both = new Both(things + " things, " + cards + " cards, " + words + " words");
                both.tell(0, text(things, cards, words));
                both.askAll(things * cards < 24);
                both.ask("days", 2);
                both.askAll(false);
            }
        }
    }

    private static void smallBehindFull() {
        Check.sentence("the COLLECTION (DAY 0; all that was of another one is gone but LAWS, which holds, READINGS, CLEANER)");
        for (int things = 1; things <= 8; things += things < 3 ? 1 : 5) {
            for (int cards = 1; cards <= 5; cards++) {
                Both both = new Both("behind a full one: " + things + " things, " + cards + " cards");
                both.tell(0, FULL);
                both.askAll(things == 2 && cards == 2);
                both.tell(0, text(things, cards, 1 + cards % 3));
                both.askAll(things * cards < 24);
                both.ask("days", 3);
                both.askAll(false);
            }
        }
        // by hand: nothing of the six cards is round, nowhere or forged any more
        LabelRoom x = Check.room(FULL);
        x.matched(0);
        Check.tell(x, 0, "tp5:a;tp4:a;tp3:a;c:a;c:a");
        int[] got = {x.round(), x.nowhere(), x.forged(), x.perhaps(), x.right(), x.matched(0), x.matched(1), x.matched(2),
            x.clash(), x.wanted(0), x.wanted(1), x.rescue(5, 50)};
        Check.dueRow("two cards", got, 0, 0, 0, 0, 0, 12, 2, 7, NONE, 0, 3, 0);
        Check.tell(x, 0, FULL);
        Check.tell(x, 0, "t:a;c:>1");
        int[] behind = {x.fits(0, 0), x.suits(0), x.round(), x.nowhere()};
        Check.dueRow("a like of where a card was", behind, 0, 0, 0, 1);
    }

    private static void shorterWords() {
        Check.sentence("WRITTEN anew: the WORDS that were there are gone");
        Both both = new Both("shorter words");
        both.tell(0, "t:a;t:b;t:ab;ci1:>0>9-aabc;ci2:-aa>1>9bc;ci1:ccccc-c");
        both.tell(2, "b");
        both.tell(2, "-a>0");
        both.ask("lamp", 2);
        for (int card = 0; card < 3; card++) {
            both.ask("write", card, card % 2);
            both.askAll(true);
        }
        both.ask("days", 4);
        both.askAll(true);
        for (int i = 0; i < 8; i++) {
            both.ask("undo");
            both.askAll(false);
        }
        LabelRoom x = Check.room("t:a;ci1:>0>9-aabc");
        Check.tell(x, 2, "b");
        x.write(0, 0);
        int[] got = {x.round(), x.nowhere(), x.forged(), x.odds(0, 8, 100), x.odds(0, 9, 100), x.blank(0), x.count(11)};
        Check.dueRow("one WORD of INK 9", got, 0, 0, 0, 1000000000, 0, 9, 0);
    }

    private static void rowsBehindTheLast() {
        Check.sentence("NEXT, SAVES: each row once, from the first to the last");
        String[] words = {"a", "ab", "abc"};
        for (String row : words) {
            for (int stood = 0; stood < 64; stood++) {
                Both both = new Both(row + " gone, stood " + stood);
                both.tell(0, "t:;t:a;t:ab;t:abc;t:abcd;t:abcdef;ci1:" + row);
                both.ask("lamp", 0);
                for (int thing = 0; thing < 6; thing++) {
                    // of three bits whether it stood there, of three whether it fitted
                    if (thing < 3 ? (stood >> thing & 1) == 1 : stood >> 3 == thing) {
                        both.ask("stood", thing, 0, (stood >> 3 + thing % 3 & 1) == 1);
                    }
                }
                both.ask("probe", 0);
                both.ask("saves", 0, 0);
                both.ask("saves", 0, 1);
                int rows = (int) both.ask("once", 0, -1);
                both.ask("once", 0, rows);
                both.ask("once", 0, Math.max(0, rows - 1));
            }
        }
    }
}
