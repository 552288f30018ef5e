import java.util.function.ToIntFunction;

/** The bounds of the Terms: of a COLLECTION, of LAWS and of READINGS, and each case of FAULT. */
public final class BoundTermsTest {
    private static final int NONE = LabelRoom.NONE;

    public static void main(String[] args) {
        clauses();
        manyThings();
        manyCards();
        items();
        rules();
        prices();
        marks();
        inks();
        fades();
        lying();
        words();
        wordSigns();
        blanks();
        tooEarly();
        digits();
        lawTexts();
        lawClauses();
        lawNumbers();
        lawLetters();
        lawSigns();
        withinOneAnother();
        held();
        heldAtEachSign();
        cutting();
        worths();
        conditions();
        readings();
        nowhere();
        Check.finish("BoundTermsTest");
    }

    private static void shows(String text, ToIntFunction<LabelRoom> told, int want) {
        Check.due("of \"" + text + "\"", told.applyAsInt(Check.room(text)), want);
    }

    private static String times(String part, int n) {
        return part.repeat(n);
    }

    private static void clauses() {
        Check.sentence("CLAUSES with ; between: s (its RULES; one at most) .. in any order");
        Check.fault(0, "t:;c:a", NONE);
        Check.fault(0, "s;t:;c:a", NONE);
        Check.fault(0, "c:a;s;t:", NONE);
        Check.fault(0, "c:a;t:;s", NONE);
        Check.fault(0, "t:;c:a;t:;c:a;s;c:a;t:", NONE);
        Check.fault(0, "s;s;t:;c:a", 2);
        Check.fault(0, "sl1;t:;c:a;sm1", 11);
        Check.fault(0, "t:;c:a;s;s", 9);
        Check.sentence("CLAUSES with ; between");
        Check.fault(0, "t: s", 3);
        Check.fault(0, "t:c:a", 3);
        Check.fault(0, "s t:;c:a", 2);
        Check.fault(0, "t:,c:a", 2);
        Check.fault(0, ";", 0);
        Check.fault(0, "t:;;", 3);
        Check.fault(0, "t:;c:a;", 7);
        Check.fault(0, "t:;c:a;;", 7);
        Check.fault(0, "r", 0);
        Check.fault(0, "u", 0);
        Check.fault(0, "b", 0);
        Check.fault(0, "d", 0);
        Check.fault(0, "S;t:;c:a", 0);
    }

    private static void manyThings() {
        Check.sentence("t (a THING; 1 .. 8)");
        Check.fault(0, "c:a", 3);
        Check.fault(0, "s;c:a", 5);
        for (int many = 1; many <= 8; many++) {
            String text = "c:a" + times(";t:", many);
            shows(text, x -> x.count(1), many);
            LabelRoom x = Check.room(text);
            Check.due("the last", Sight.thing(x, many - 1, 0), 1);
            Check.due("behind the last", Sight.thing(x, many, 0), -99);
        }
        Check.sentence("a ninth t .. at it");
        Check.fault(0, "c:a" + times(";t:", 9), 28);
        Check.fault(0, times("t:;", 8) + "t", 24);
        Check.fault(0, times("t:;", 8) + "c:a;t:", 28);
        Check.fault(0, times("t:;", 8) + "c:a;  t:", 30);
    }

    private static void manyCards() {
        Check.sentence("c (a CARD; 1 .. 6)");
        Check.fault(0, "t:", 2);
        Check.fault(0, "s;t:", 4);
        for (int many = 1; many <= 6; many++) {
            String text = "t:" + times(";c:a", many);
            shows(text, x -> x.count(0), many);
            LabelRoom x = Check.room(text);
            int[] ends = {x.card(many - 1, 2), x.card(many, 2)};
            Check.dueRow("the last and the one behind it", ends, 1, NONE);
        }
        Check.sentence("a seventh c .. at it");
        Check.fault(0, "t:" + times(";c:a", 7), 27);
        Check.fault(0, times("c:a;", 6) + "c", 24);
        Check.fault(0, times("c:a;", 6) + "t:;c:a", 27);
    }

    private static void items() {
        Check.sentence("ITEMS, none or more: a letter, each once at most in a CLAUSE");
        Check.fault(0, "s;t:;c:a", NONE);
        Check.fault(0, "sl1;tp1:;ci1:a", NONE);
        Check.fault(0, "sm1l1;t:;ct8f1i1:a", NONE);
        Check.fault(0, "sl1m1;t:;cf1i1t8:a", NONE);
        Check.fault(0, "t:;ci1:a;ci1:a", NONE);
        Check.sentence("a letter that was there (of ITEMS..) .. at it");
        Check.fault(0, "sl1l2", 3);
        Check.fault(0, "sm1m2", 3);
        Check.fault(0, "sl1m1m2", 5);
        Check.fault(0, "sm1l1m2", 5);
        Check.fault(0, "tp1p2", 3);
        Check.fault(0, "t:;ci1i2", 6);
        Check.fault(0, "t:;cf1f2", 6);
        Check.fault(0, "t:;ct8t8", 6);
        Check.fault(0, "t:;ci1f1i2", 8);
        Check.fault(0, "t:;cf1t8f2", 8);
        Check.fault(0, "t:;ct8i1t8", 8);
        Check.fault(0, "t:;ci1f1t8i1", 10);
        Check.fault(0, "t:;ci1f1t8f1", 10);
        Check.fault(0, "t:;ci1f1t8t8", 10);
        Check.fault(0, "sl1 l", 4);
        Check.sentence("of s: l, m; of t: p; of c: i, f, t");
        Check.fault(0, "sp1", 1);
        Check.fault(0, "si1", 1);
        Check.fault(0, "tl1", 1);
        Check.fault(0, "tt1", 1);
        Check.fault(0, "t:;cp1", 4);
        Check.fault(0, "t:;cm1", 4);
        Check.fault(0, "s1", 1);
        Check.fault(0, "t1", 1);
        Check.fault(0, "t:;c1", 4);
        Check.sentence("a letter .. and a number");
        Check.fault(0, "sl", 2);
        Check.fault(0, "sl ", 3);
        Check.fault(0, "slm1", 2);
        Check.fault(0, "sl;", 2);
        Check.fault(0, "tp:", 2);
        Check.fault(0, "t:;ci:a", 5);
        Check.fault(0, "t:;cif1:a", 5);
        Check.fault(0, "sl-1", 2);
        Check.fault(0, "sl+1", 2);
        Check.fault(0, "sl/", 2);
        Check.fault(0, "sl:", 2);
    }

    private static void rules() {
        Check.sentence("l LIGHT (0 .. 9; 1 without)");
        for (int light = 0; light <= 9; light++) {
            shows("sl" + light + ";t:;c:a", x -> x.count(7), light);
            shows("sl0" + light + ";t:;c:a", x -> x.count(7), light);
        }
        shows("t:;c:a", x -> x.count(7), 1);
        shows("s;t:;c:a", x -> x.count(7), 1);
        shows("sm5;t:;c:a", x -> x.count(7), 1);
        Check.fault(0, "sl10;t:;c:a", 3);
        Check.fault(0, "sl11;t:;c:a", 3);
        Check.fault(0, "sl99;t:;c:a", 3);
        Check.sentence("m MONEY (0 .. 99; 20)");
        int[] moneys = {0, 1, 9, 10, 20, 50, 98, 99};
        for (int money : moneys) {
            shows("t:;c:a;sm" + money, x -> x.count(8), money);
        }
        shows("sm00;t:;c:a", x -> x.count(8), 0);
        shows("sm09;t:;c:a", x -> x.count(8), 9);
        shows("t:;c:a", x -> x.count(8), 20);
        shows("s;t:;c:a", x -> x.count(8), 20);
        shows("sl5;t:;c:a", x -> x.count(8), 20);
        Check.fault(0, "sm100;t:;c:a", 4);
        Check.fault(0, "sm999;t:;c:a", 4);
    }

    private static void prices() {
        Check.sentence("p PRICE (0 .. 9; 1)");
        for (int price = 0; price <= 9; price++) {
            shows("tp" + price + ":a;c:a", x -> Sight.thing(x, 0, 0), price);
        }
        shows("tp00:;c:a", x -> Sight.thing(x, 0, 0), 0);
        shows("tp09:;c:a", x -> Sight.thing(x, 0, 0), 9);
        shows("t:;tp9:;c:a", x -> Sight.thing(x, 0, 0), 1);
        shows("tp9:;t:;c:a", x -> Sight.thing(x, 1, 0), 1);
        Check.fault(0, "tp10:;c:a", 3);
        Check.fault(0, "tp99:;c:a", 3);
    }

    private static void marks() {
        Check.sentence("behind them : and its MARKS: letters a .. f, none or more, each once");
        shows("t:;c:a", x -> Sight.thing(x, 0, 1), 0);
        for (int mark = 0; mark < 6; mark++) {
            shows("t:" + (char) ('a' + mark) + ";c:a", x -> Sight.thing(x, 0, 1), 1 << mark);
        }
        shows("t:abcdef;c:a", x -> Sight.thing(x, 0, 1), 63);
        shows("t:fdbeca;c:a", x -> Sight.thing(x, 0, 1), 63);
        Check.fault(0, "t:g;c:a", 2);
        Check.fault(0, "t:`;c:a", 2);
        Check.fault(0, "t:A;c:a", 2);
        Check.fault(0, "t:-a;c:a", 2);
        Check.fault(0, "t:>1;c:a", 2);
        Check.fault(0, "t;c:a", 1);
        Check.fault(0, "ta;c:a", 1);
        Check.fault(0, "tp1;c:a", 3);
        Check.sentence("a letter that was there (.. of MARKS) .. at it");
        for (int mark = 0; mark < 6; mark++) {
            char letter = (char) ('a' + mark);
            Check.fault(0, "t:" + letter + letter + ";c:a", 3);
            Check.fault(0, "t:abcdef" + letter + ";c:a", 8);
        }
        Check.fault(0, "t:a  a", 5);
        // it may stand in another THING
        Check.fault(0, "t:a;t:a;c:a", NONE);
    }

    private static void inks() {
        Check.sentence("i INK (1 .. 9; 5)");
        for (int ink = 1; ink <= 9; ink++) {
            shows("t:;ci" + ink + ":ab", x -> x.word(0, 1, 2), ink);
        }
        shows("t:;ci01:a", x -> x.word(0, 0, 2), 1);
        shows("t:;ci09:a", x -> x.word(0, 0, 2), 9);
        shows("t:;c:a", x -> x.word(0, 0, 2), 5);
        shows("t:;ci9:a;cf1:a", x -> x.word(1, 0, 2), 5);
        Check.fault(0, "t:;ci0:a", 5);
        Check.fault(0, "t:;ci00:a", 6);
        Check.fault(0, "t:;ci10:a", 6);
        Check.fault(0, "t:;ci99:a", 6);
    }

    private static void fades() {
        Check.sentence("f by which it FADES (0 .. 9; 1)");
        for (int fades = 0; fades <= 9; fades++) {
            shows("t:;cf" + fades + ":a", x -> x.card(0, 0), fades);
        }
        shows("t:;cf00:a", x -> x.card(0, 0), 0);
        shows("t:;cf09:a", x -> x.card(0, 0), 9);
        shows("t:;c:a", x -> x.card(0, 0), 1);
        shows("t:;cf9:a;ci1:a", x -> x.card(1, 0), 1);
        Check.fault(0, "t:;cf10:a", 6);
        Check.fault(0, "t:;cf99:a", 6);
    }

    private static void lying() {
        Check.sentence("t the THING under it at first (0 .. 8; 8: none; 8)");
        String eight = times("t:;", 8);
        for (int thing = 0; thing <= 7; thing++) {
            int lies = thing;
            shows(eight + "ct" + thing + ":a", x -> x.card(0, 1), lies);
            shows(eight + "ct" + thing + ":a", x -> Sight.thing(x, lies, 2), 0);
        }
        shows(eight + "ct00:a", x -> x.card(0, 1), 0);
        shows(eight + "ct08:a", x -> x.card(0, 1), NONE);
        shows(eight + "ct8:a", x -> x.card(0, 1), NONE);
        shows(eight + "c:a", x -> x.card(0, 1), NONE);
        Check.fault(0, "t:;ct9:a", 5);
        Check.fault(0, "t:;ct10:a", 6);
        Check.sentence("the length .. with a THING that is not told under a CARD");
        Check.fault(0, "t:;ct1:a", 8);
        Check.fault(0, "t:;ct7:a ", 9);
        Check.fault(0, "ct0:a;t:", NONE);
        Check.fault(0, "ct1:a;t:;t:", NONE);
        Check.fault(0, "ct2:a;t:;t:", 11);
        Check.fault(0, "ct7:a;" + eight + "c:a", NONE);
        Check.fault(0, "ct7:a;" + times("t:;", 7) + "c:a", 30);
        Check.sentence("the length .. or one under two CARDS");
        Check.fault(0, "t:;ct0:a;ct0:a", 14);
        Check.fault(0, eight + "ct7:a;c:a;ct7:a", 39);
        Check.fault(0, "ct0:a;t:;ct0:a", 14);
        Check.fault(0, "t:;ct8:a;ct8:a;ct8:a", NONE);
        Check.fault(0, "t:;t:;ct0:a;ct1:a", NONE);
        // all bytes are read before that is looked at
        Check.fault(0, "t:;ct0:a;ct0:a;z", 15);
        Check.fault(0, "t:;ct5:a;ci0:a", 11);
    }

    private static void words() {
        Check.sentence("its WORDS, 1 to 6");
        Check.fault(0, "t:;c:", 5);
        Check.fault(0, "t:;c:;t:", 5);
        Check.fault(0, "t:;c:  ", 7);
        for (int many = 1; many <= 6; many++) {
            shows("t:;c:" + times("a", many), x -> x.card(0, 2), many);
            shows("t:;c:" + times("-b", many), x -> x.card(0, 2), many);
            shows("t:;c:" + times(">3", many), x -> x.card(0, 2), many);
        }
        Check.sentence("a seventh WORD .. at it");
        Check.fault(0, "t:;c:aaaaaaa", 11);
        Check.fault(0, "t:;c:aaaaaa a", 12);
        Check.fault(0, "t:;c:aaaaaa-a", 11);
        Check.fault(0, "t:;c:aaaaaa-", 11);
        Check.fault(0, "t:;c:aaaaaa>1", 11);
        Check.fault(0, "t:;c:-a-a-a-a-a-aa", 17);
        Check.fault(0, "t:;c:>1>1>1>1>1>1>1", 17);
    }

    private static void wordSigns() {
        Check.sentence("a letter a .. f, - and such a letter, or > and a digit");
        for (int mark = 0; mark < 6; mark++) {
            char letter = (char) ('a' + mark);
            LabelRoom x = Check.room("t:;c:" + letter + "-" + letter);
            int[] got = {x.word(0, 0, 0), x.word(0, 0, 1), x.word(0, 1, 0), x.word(0, 1, 1)};
            Check.dueRow("words of " + letter, got, 0, mark, 1, mark);
        }
        for (int card = 0; card <= 9; card++) {
            LabelRoom x = Check.room("t:;c:>" + card);
            int[] got = {x.word(0, 0, 0), x.word(0, 0, 1), x.card(0, 2)};
            Check.dueRow("> " + card, got, 2, card, 1);
        }
        Check.fault(0, "t:;c:g", 5);
        Check.fault(0, "t:;c:`", 5);
        Check.fault(0, "t:;c:-g", 6);
        Check.fault(0, "t:;c:-`", 6);
        Check.fault(0, "t:;c:-", 6);
        Check.fault(0, "t:;c:-;", 6);
        Check.fault(0, "t:;c:->0", 6);
        Check.fault(0, "t:;c:>", 6);
        Check.fault(0, "t:;c:>:", 6);
        Check.fault(0, "t:;c:>/", 6);
        Check.fault(0, "t:;c:>-1", 6);
        Check.fault(0, "t:;c:>>1", 6);
        Check.fault(0, "t:;c:>00", 7);
        Check.fault(0, "t:;c:0", 5);
        Check.fault(0, "t:;c:+a", 5);
    }

    private static void blanks() {
        Check.sentence("Blanks (32) may stand between all signs of these, not within numbers");
        Check.fault(0, " s l 1 m 12 ; t p 3 : a b ; c i 2 f 3 t 0 : a - b > 1 ", NONE);
        Check.fault(1, " y : ! ( i = 12 & [ f ] < 3 | l > p ) ? 4 + k * d ; y : 1 ", NONE);
        Check.fault(2, " a - b > 1 ", NONE);
        Check.fault(0, "sm1 2;t:;c:a", 4);
        Check.fault(0, "t:;ci0 5:a", 5);
        Check.fault(1, "y:1 2", 4);
        Check.fault(1, "y:1  2", 5);
        int[] others = {9, 10, 13, 31, 33, 160};
        for (int other : others) {
            Check.fault(0, "t:" + (char) other + ";c:a", 2);
            Check.fault(1, "y" + (char) other + ":1", 1);
            Check.fault(2, (char) other + "a", 0);
        }
        Check.fault(0, times(" ", 234) + "t:;c:a", NONE);
        Check.fault(0, times(" ", 240), 240);
        Check.fault(1, times(" ", 240), 240);
        Check.fault(2, "a" + times(" ", 239), NONE);
    }

    private static void tooEarly() {
        Check.sentence("FAULT: the length, if it ends too early, without a THING or a CARD");
        String whole = "sl2m34;tp5:ab;ci6f7t0:a-b>1";
        Check.fault(0, whole, NONE);
        for (int n = 0; n < whole.length(); n++) {
            // WORDS are enough with the first, the second and the third
            boolean enough = whole.startsWith(":a", n - 2) && n > 14 || whole.startsWith("-b", n - 2);
            Check.fault(0, whole.substring(0, n), enough ? NONE : n);
        }
        String law = "y:!(i=12)&[3+f]<4|l>p?k*d;y:5";
        Check.fault(1, law, NONE);
        for (int n = 0; n < law.length(); n++) {
            // behind ? a SUM is there with k, with d
            boolean enough = n == law.indexOf("k*") + 1 || n == law.indexOf("d;") + 1;
            Check.fault(1, law.substring(0, n), enough ? NONE : n);
        }
        String reading = "a-b>1";
        for (int n = 0; n <= reading.length(); n++) {
            Check.fault(2, reading.substring(0, n), n == 1 || n == 3 || n == 5 ? NONE : n);
        }
    }

    private static void digits() {
        Check.sentence("a number out of bounds is wrong at its last digit");
        Check.fault(0, "sl10", 3);
        Check.fault(0, "tp10", 3);
        Check.fault(0, "t:;ci0", 5);
        Check.fault(0, "t:;ci10", 6);
        Check.fault(0, "t:;cf10", 6);
        Check.fault(0, "t:;ct9", 5);
        Check.fault(0, "sl 10 m1", 4);
        Check.sentence("a third digit (whatever stands ahead of it..) itself");
        Check.fault(0, "sl100", 4);
        Check.fault(0, "sl000", 4);
        Check.fault(0, "sl0001", 4);
        Check.fault(0, "sm990", 4);
        Check.fault(0, "sm000", 4);
        Check.fault(0, "tp100", 4);
        Check.fault(0, "tp001", 4);
        Check.fault(0, "t:;ci000", 7);
        Check.fault(0, "t:;ci001", 7);
        Check.fault(0, "t:;cf990", 7);
        Check.fault(0, "t:;ct990", 7);
        Check.fault(0, "t:;ct008", 7);
        Check.sentence(".. a fifth one in a LAW");
        Check.fault(1, "y:9999", NONE);
        Check.fault(1, "y:0000", NONE);
        Check.fault(1, "y:00000", 6);
        Check.fault(1, "y:99999", 6);
        Check.fault(1, "y:999999", 6);
        Check.fault(1, "y:1+00001", 8);
        Check.fault(1, "y:i=00001?1", 8);
    }

    private static void lawTexts() {
        Check.sentence("LAWS (4 at most)");
        LabelRoom x = new LabelRoom();
        for (int i = 0; i < 4; i++) {
            Check.due("law " + i + " is not there yet", x.law(i), false);
            Check.due("law", Check.tell(x, 1, "y:" + (i + 1)), i);
            Check.due("how many", x.count(2), i + 1);
        }
        Check.due("a fifth", Check.tell(x, 1, "y:5"), NONE);
        Check.due("its TAPE is kept", x.count(4), 3);
        Check.due("how many", x.count(2), 4);
        Check.due("law(4)", x.law(4), false);
        Check.tell(x, 0, "t:;c i9:a");
        for (int i = 0; i < 4; i++) {
            x.law(i);
            x.days(1);
            Check.due("INK by law " + i, x.word(0, 0, 2), 8 - i);
            x.undo();
        }
    }

    private static void lawClauses() {
        Check.sentence("CLAUSES with ; between, one at least: y, :, perhaps CONDITION ?, then SUM");
        Check.fault(1, "", 0);
        Check.fault(1, "y", 1);
        Check.fault(1, "y:", 2);
        Check.fault(1, "y:1", NONE);
        Check.fault(1, "y:1;", 4);
        Check.fault(1, ";y:1", 0);
        Check.fault(1, "y:1;;y:1", 4);
        Check.fault(1, "y:1 y:1", 4);
        Check.fault(1, "Y:1", 0);
        Check.fault(1, "x:1", 0);
        Check.fault(1, "z:1", 0);
        Check.fault(1, "y;1", 1);
        Check.fault(1, "y:?1", 2);
        Check.fault(1, "y:1?1", 3);
        Check.fault(1, "y:1=1?", 6);
        Check.fault(1, "y:1=1?;", 6);
        Check.fault(1, "y:1=1", 5);
        Check.fault(1, "y:1=1;y:1", 5);
        // as many as the TAPE holds: 60 with 3 bytes and a ; each
        Check.fault(1, times("y:1;", 59) + "y:1", NONE);
        Check.fault(1, times("y:1;", 60), 240);
        worth(times("y:0>1?1;", 29) + "y:7", 7);
    }

    private static void lawNumbers() {
        Check.sentence("ATOM: a number (1 to 4 digits)");
        worth("y:7", 7);
        worth("y:07", 7);
        worth("y:007", 7);
        worth("y:0007", 7);
        worth("y:9999/1111", 9);
        worth("y:9999-9998", 1);
        worth("y:0", 0);
        Check.fault(1, "y:/1", 2);
        Check.fault(1, "y::1", 2);
        Check.fault(1, "y:-1", 2);
        Check.fault(1, "y:1.5", 3);
    }

    private static void lawLetters() {
        Check.sentence("ATOM: .. a letter (i f l p k d)");
        for (char letter = 1; letter < 256; letter++) {
            boolean sound = "iflpkd".indexOf(letter) >= 0 || letter >= '0' && letter <= '9';
            // these go on with something else
            boolean opens = "[!( ".indexOf(letter) >= 0;
            Check.fault(1, "y:" + letter, sound ? NONE : opens ? 3 : 2);
        }
    }

    private static void lawSigns() {
        Check.sentence("UNIT: .. SUM, one of = < >, SUM");
        for (char sign = 33; sign < 256; sign++) {
            boolean compares = "=<>".indexOf(sign) >= 0;
            boolean joins = "+-*/".indexOf(sign) >= 0;
            boolean goesOn = compares || joins || sign == ';' || sign >= '0' && sign <= '9';
            Check.fault(1, "y:i" + sign, goesOn && !(sign >= '0' && sign <= '9') ? 4 : 3);
            Check.fault(1, "y:i" + sign + "i", joins ? NONE : compares ? 5 : sign == ';' ? 4 : 3);
            boolean units = "&|".indexOf(sign) >= 0;
            Check.fault(1, "y:i=i" + sign + "i", units || joins ? 7 : sign == '?' ? NONE : 5);
        }
        Check.sentence("(A CLAUSE that goes on with ! or ( behind its : has a CONDITION.)");
        Check.fault(1, "y:(1)", 4);
        Check.fault(1, "y:(1+2)*3", 6);
        Check.fault(1, "y:!1", 4);
        Check.fault(1, "y:(1=1)", 7);
        Check.fault(1, "y:(1=1)?1", NONE);
        Check.fault(1, "y:!1=1?1", NONE);
        Check.fault(1, "y:[1]", NONE);
        Check.fault(1, "y:[1]=1", 7);
        Check.fault(1, "y:1=1&(1", 8);
        Check.fault(1, "y:1=1?(1=1)", 6);
        Check.fault(1, "y:1=1?!1=1", 6);
        Check.fault(1, "y:[!1=1]", 3);
        Check.fault(1, "y:[(1)]", 3);
    }

    private static void withinOneAnother() {
        Check.sentence("At most six of ( [ ! within one another .. a seventh of ( [ ! in a LAW at it");
        String[] opening = {"(", "!"};
        for (String first : opening) {
            for (String last : new String[] {"(", "!", "["}) {
                Check.fault(1, "y:" + times(first, 5) + last + "1", 9);
                Check.fault(1, "y:" + times(first, 6) + last + "1", 8);
                Check.fault(1, "y:" + times(first, 6) + " " + last + "1", 9);
            }
        }
        Check.fault(1, "y:" + times("[", 6) + "1" + times("]", 6), NONE);
        Check.fault(1, "y:" + times("[", 7) + "1" + times("]", 7), 8);
        Check.fault(1, "y:" + times("(", 6) + "1=1" + times(")", 6) + "?1", NONE);
        Check.fault(1, "y:" + times("!", 6) + "1=1?1", NONE);
        Check.fault(1, "y:!(!(![1]=1))?1", NONE);
        Check.fault(1, "y:!(!(!([1]=1)))?1", 8);
        // those that are shut, or stand side by side, are within nothing
        Check.fault(1, "y:" + times("[1]+", 50) + "1", NONE);
        Check.fault(1, "y:" + times("!1=1&", 40) + "1=1?1", NONE);
        Check.fault(1, "y:" + times("(1=1)|", 30) + "1=1?1", NONE);
        Check.fault(1, "y:((((((1=1)|(1=1)))))&(((((1=1))))))?1", NONE);
        Check.fault(1, "y:!!!!!!1=1&!!!!!!1=1?[[[[[[1]]]]]]", NONE);
        Check.fault(1, "y:!!!!!!1=1&!!!!!!!", 18);
        Check.fault(1, "y:1=1?[[[[[[[", 12);
        Check.fault(1, "y:1=[[[[[[[", 10);
        Check.fault(1, "y:(1=[[[[[[1", 10);
        Check.fault(1, "y:(((((1=1&!1=[1]", 14);
        Check.fault(1, "y:(((((1=1&!1=1&[1]=1)))))?1", NONE);
        Check.fault(1, "y:1;y:((((((1=1))))))?1;y:[[[[[[1]]]]]]", NONE);
    }

    /** How much a WORD of INK 9 loses on DAY 0 by a LAW. */
    private static void worth(String law, int want) {
        LabelRoom x = Check.room("s l2; t:; c i9 f3:a");
        Check.tell(x, 1, law);
        x.law(0);
        x.days(1);
        Check.due("loss by " + law, 9 - x.word(0, 0, 2), want);
    }

    private static void held() {
        Check.sentence("Behind each sign numbers are within -1,000,000 .. 1,000,000");
        // 9999 * 100 is 999900
        worth("y:[9999*100+99]-9999*100-94", 5);
        worth("y:[9999*100+100]-9999*100-95", 5);
        worth("y:[9999*100+101]-9999*100-95", 5);
        worth("y:[9999*100+9999]-9999*100-95", 5);
        worth("y:[0-9999*100-99]+9999*100+104", 5);
        worth("y:[0-9999*100-100]+9999*100+105", 5);
        worth("y:[0-9999*100-101]+9999*100+105", 5);
        worth("y:[0-9999*100-9999]+9999*100+105", 5);
        worth("y:1000*999-9990*100+5", 5);
        worth("y:1000*1000-9999*100-95", 5);
        worth("y:1000*1001-9999*100-95", 5);
        worth("y:[0-1000]*1000+9999*100+105", 5);
        worth("y:[0-1000]*1001+9999*100+105", 5);
        worth("y:9999*9999-9999*100-95", 5);
        worth("y:9999*9999*9999-9999*100-95", 5);
        worth("y:[0-9999]*9999*9999+9999*100+105", 5);
        worth("y:[0-9999]*[0-9999]-9999*100-95", 5);
        worth("y:9999*9999*[9999*9999]-9999*100-95", 5);
        worth("y:9999*9999*[0-9999*9999]+9999*100+105", 5);
        // 65536 * 65536 goes round to 0 in 32 bits
        worth("y:[256*256]*[256*256]/1000/200", 5);
    }

    private static void heldAtEachSign() {
        Check.sentence("Behind each sign");
        worth("y:9999*9999/1000-995", 5);
        worth("y:9999*9999/9999-95", 5);
        worth("y:9999*200/200-4995", 5);
        worth("y:9999*100+9999*100-9999*100-95", 5);
        worth("y:0-9999*100-9999*100+9999*100+105", 5);
        worth("y:9999*100+[9999*100-9999*100]-9999*100+5", 5);
        worth("y:1000*1000+1000*1000=1000*1000?5", 5);
        worth("y:1000*1000+1>1000*1000?3;y:5", 5);
        worth("y:0-1000*1000-1<0-1000*1000?3;y:5", 5);
    }

    private static void cutting() {
        Check.sentence("/ cuts towards 0");
        worth("y:7/2+2", 5);
        worth("y:[0-7]/2+8", 5);
        worth("y:7/[0-2]+8", 5);
        worth("y:[0-7]/[0-2]+2", 5);
        worth("y:1/2+5", 5);
        worth("y:[0-1]/2+5", 5);
        worth("y:1/9999+5", 5);
        worth("y:9999*9999/1-9999*100-95", 5);
        Check.sentence("by 0 gives 0");
        worth("y:7/0+5", 5);
        worth("y:0/0+5", 5);
        worth("y:[0-7]/0+5", 5);
        worth("y:7/[3-3]+5", 5);
        worth("y:9999*9999/p+5", 5);
        worth("y:8/0/2+5", 5);
        worth("y:1/0=0?5", 5);
    }

    private static void worths() {
        Check.sentence("WORTH of a LAW: the SUM of the first CLAUSE whose CONDITION holds (or has none), 0 without");
        worth("y:1=1?5;y:6", 5);
        worth("y:1=2?4;y:5;y:6", 5);
        worth("y:5;y:1=1?6", 5);
        worth("y:1=2?4;y:2=2?5;y:3=3?6", 5);
        worth("y:1=2?4;y:2=3?5", 0);
        worth("y:1=2?4", 0);
        Check.sentence("= < >");
        worth("y:4=5?1;y:5=5?2", 2);
        worth("y:5<5?1;y:4<5?2", 2);
        worth("y:5>5?1;y:5>4?2", 2);
        worth("y:5<4?1;y:4>5?2;y:3", 3);
        worth("y:0-1<0?5", 5);
    }

    /** A CONDITION of which T is true and F is not, each by all of = < > and by all of them in turn. */
    private static void holds(String condition, boolean want) {
        String[] truths = {"1=1", "1<2", "2>1"};
        String[] untruths = {"1=2", "2<1", "1>2"};
        for (int sort = 0; sort < 3; sort++) {
            String one = condition.replace("T", truths[sort]).replace("F", untruths[sort]);
            worth("y:" + one + "?5;y:3", want ? 5 : 3);
            String mixed = condition;
            for (int turn = sort; mixed.matches(".*[TF].*"); turn++) {
                boolean truth = mixed.replaceAll("[^TF]", "").charAt(0) == 'T';
                mixed = mixed.replaceFirst("[TF]", truth ? truths[turn % 3] : untruths[turn % 3]);
            }
            worth("y:" + mixed + "?5;y:3", want ? 5 : 3);
        }
    }

    private static void conditions() {
        Check.sentence("CONDITION: TRUTHS with | between; TRUTH: UNITS with & between; UNIT: ! UNIT, ( CONDITION )");
        String[] both = {"F", "T"};
        for (int one = 0; one < 2; one++) {
            holds(both[one], one == 1);
            holds("!" + both[one], one == 0);
            holds("!!!!!" + both[one], one == 0);
            holds("!!!!!!" + both[one], one == 1);
            holds("((((((" + both[one] + "))))))", one == 1);
            for (int other = 0; other < 2; other++) {
                String pair = both[one] + "&" + both[other];
                holds(pair, one + other == 2);
                holds("!(" + pair + ")", one + other < 2);
                holds("!" + pair, one == 0 && other == 1);
                holds(both[one] + "|" + both[other], one + other > 0);
                holds("!(" + both[one] + "|" + both[other] + ")", one + other == 0);
                for (int last = 0; last < 2; last++) {
                    holds(pair + "|" + both[last], one + other == 2 || last == 1);
                    holds(both[last] + "|" + pair, one + other == 2 || last == 1);
                    holds("(" + both[last] + "|" + both[one] + ")&" + both[other], last + one > 0 && other == 1);
                    holds(both[last] + "&!" + both[one] + "|!" + both[other], last == 1 && one == 0 || other == 0);
                }
            }
        }
        // as many as the TAPE holds
        holds("T" + times("&T", 50), true);
        holds("T" + times("&T", 49) + "&F", false);
        holds("F" + times("|F", 50), false);
        holds("F" + times("|F", 49) + "|T", true);
    }

    private static void readings() {
        Check.sentence("READINGS (4 at most)");
        LabelRoom x = new LabelRoom();
        for (int i = 0; i < 4; i++) {
            Check.due("ahead of it", x.reading(i, 0, 0), NONE);
            Check.due("reading", Check.tell(x, 2, "-" + (char) ('c' + i)), i);
            Check.due("how many", x.count(3), i + 1);
        }
        Check.due("a fifth", Check.tell(x, 2, "a"), NONE);
        Check.due("its TAPE is kept", x.count(4), 1);
        Check.due("how many", x.count(3), 4);
        for (int i = 0; i < 4; i++) {
            int[] word = {x.reading(i, 0, 0), x.reading(i, 0, 1), x.reading(i, 1, 0)};
            Check.dueRow("reading " + i, word, 1, 2 + i, NONE);
        }
        Check.due("no fifth", x.reading(4, 0, 0), NONE);
        Check.sentence("READINGS .. WORDS as of a CARD, 1 to 6");
        Check.fault(2, "", 0);
        Check.fault(2, "  ", 2);
        for (int many = 1; many <= 6; many++) {
            Check.fault(2, times("a", many), NONE);
            Check.fault(2, times("-f", many), NONE);
            Check.fault(2, times(">9", many), NONE);
        }
        Check.fault(2, "aaaaaaa", 6);
        Check.fault(2, "aaaaaa-a", 6);
        Check.fault(2, "aaaaaa >1", 7);
        for (char sign = 33; sign < 256; sign++) {
            boolean word = sign >= 'a' && sign <= 'f';
            Check.fault(2, "" + sign, word ? NONE : sign == '-' || sign == '>' ? 1 : 0);
            Check.fault(2, "-" + sign, word ? NONE : 1);
            Check.fault(2, ">" + sign, sign >= '0' && sign <= '9' ? NONE : 1);
        }
    }

    private static void nowhere() {
        Check.sentence("(A > to a CARD that is not there is no FAULT: it leads nowhere.)");
        Check.fault(0, "t:;c:>1", NONE);
        Check.fault(0, "t:;c:>9", NONE);
        Check.fault(0, "t:;c:>6;c:>5;c:>4;c:>3;c:>2;c:>1", NONE);
        shows("t:;c:>0", x -> x.nowhere(), 0);
        shows("t:;c:>1", x -> x.nowhere(), 1);
        shows("t:;c:>1;c:>1", x -> x.nowhere(), 0);
        shows("t:;c:>6;c:>5;c:>4;c:>3;c:>2;c:>9", x -> x.nowhere(), 33);
    }
}
