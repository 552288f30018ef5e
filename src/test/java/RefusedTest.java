import java.util.function.Supplier;

/** "What is refused answers as told and changes nothing": each refusal of each promise, and what shows behind it. */
public final class RefusedTest {
    private static final int NONE = LabelRoom.NONE;
    private static final int LEAST = Integer.MIN_VALUE;
    private static final int MOST = Integer.MAX_VALUE;
    // four things and three cards: numbers just outside, far outside, and those that other bounds have
    private static final int[] NO_THING = {LEAST, -2, -1, 4, 8, MOST};
    private static final int[] NO_CARD = {LEAST, -2, -1, 3, 6, MOST};
    private static final int[] NO_WHAT = {LEAST, -1, MOST};

    public static void main(String[] args) {
        Check.sentence("What is refused answers as told and changes nothing");
        withoutCollection();
        Refusal busy = new Refusal("busy room", RefusedTest::busy);
        texts(busy);
        states(busy);
        hands(busy);
        days(busy);
        logs(busy);
        marksAndWords(busy);
        guesses(busy);
        odds(busy);
        full();
        poor();
        blank();
        Check.finish("RefusedTest");
    }

    /** A room with something of all: laws, readings, a tape, days, acts, an image, what stood. */
    private static LabelRoom busy() {
        LabelRoom x = Check.room("s l2 m10; t p3:ab; t p2:a; t p2:ac; t:; c i9 f1 t0:a-c; c i2 f2:b>0; c i5:-a-b");
        Check.tell(x, 1, "y:p>0?i/2;y:f*l");
        Check.tell(x, 1, "y:k+1");
        Check.tell(x, 2, "-a>1");
        x.cleaner(7);
        x.days(1);
        x.law(1);
        x.image();
        x.stood(0, 0, true);
        x.stood(1, 1, false);
        x.lamp(2);
        x.light(3);
        Check.feed(x, "ab>1;");
        return x;
    }

    private static LabelRoom bare() {
        LabelRoom x = new LabelRoom();
        x.law(Check.tell(x, 1, "y:1"));
        Check.tell(x, 2, "a-b");
        x.cleaner(5);
        Check.feed(x, "t:;c:");
        return x;
    }

    private static void withoutCollection() {
        Refusal none = new Refusal("no COLLECTION", RefusedTest::bare);
        none.answers("thing", x -> Sight.thing(x, 0, 0), -99);
        none.none("card", x -> x.card(0, 0));
        none.none("word", x -> x.word(0, 0, 0));
        none.none("fits", x -> x.fits(0, 0));
        none.none("put", x -> x.put(0, 0));
        none.none("take", x -> x.take(0));
        none.none("copy", x -> x.copy(0));
        none.none("lamp", x -> x.lamp(0));
        none.isFalse("light(0)", x -> x.light(0));
        none.isFalse("light(1)", x -> x.light(1));
        none.isFalse("light(9)", x -> x.light(9));
        none.none("write", x -> x.write(0, 0));
        none.none("days", x -> x.days(1));
        none.none("decades", x -> x.decades(1, 1L));
        none.none("undo", x -> x.undo());
        none.none("log", x -> x.log(0, 0));
        none.none("image", x -> x.image());
        none.none("back", x -> x.back());
        none.none("text(0)", x -> x.text(0));
        none.none("stood", x -> x.stood(0, 0, true));
        none.none("right", x -> x.right());
        none.none("matched", x -> x.matched(0));
        none.none("clash", x -> x.clash());
        none.none("blank", x -> x.blank(0));
        none.none("once", x -> x.once(0, NONE));
        none.none("probe", x -> x.probe(0));
        none.none("saves", x -> x.saves(0, 0));
        none.none("round", x -> x.round());
        none.none("nowhere", x -> x.nowhere());
        none.none("forged", x -> x.forged());
        none.none("alone", x -> x.alone(0));
        none.none("suits", x -> x.suits(0));
        none.none("wanted", x -> x.wanted(0));
        none.none("perhaps", x -> x.perhaps());
        none.none("shared", x -> x.shared(0, 0));
        none.none("twins", x -> x.twins(NONE));
        none.none("odds", x -> x.odds(0, 1, 50));
        none.none("rescue", x -> x.rescue(1, 50));
    }

    private static void texts(Refusal busy) {
        int[] noEnd = {LEAST, -1, 6, 240, 241, MOST};
        for (int n : noEnd) {
            busy.isFalse("end(" + n + ")", x -> x.end(n));
        }
        int[] noSort = {LEAST, -2, -1, 3, MOST};
        for (int sort : noSort) {
            busy.answers("fault(" + sort + ")", x -> x.fault(sort), -2);
            busy.none("text(" + sort + ")", x -> x.text(sort));
        }
        // "ab>1;" is nothing that can be told
        for (int sort = 0; sort <= 2; sort++) {
            int told = sort;
            busy.none("text(" + sort + ")", x -> x.text(told));
        }
        Refusal wrong = new Refusal("a COLLECTION whose last byte is wrong", () -> {
            LabelRoom x = busy();
            Check.tape(x, "sl1m1;tp1:f;t:f;ci1t1:f;c:f;c:f;c:f;x");
            return x;
        });
        wrong.none("text(0)", x -> x.text(0));
        Refusal two = new Refusal("one THING under two CARDS", () -> {
            LabelRoom x = busy();
            Check.tape(x, "t:f;ct0:f;ct0:f");
            return x;
        });
        two.none("text(0)", x -> x.text(0));
        Refusal law = new Refusal("a LAW whose last byte is wrong", () -> {
            LabelRoom x = busy();
            Check.tape(x, "y:1=1?9;y:9?");
            return x;
        });
        law.none("text(1)", x -> x.text(1));
    }

    private static void states(Refusal busy) {
        for (int thing : NO_THING) {
            busy.answers("thing(" + thing + ", 0)", x -> Sight.thing(x, thing, 0), -99);
        }
        int[] noOf = {LEAST, -1, 3, MOST};
        for (int what : noOf) {
            busy.answers("thing(0, " + what + ")", x -> Sight.thing(x, 0, what), -99);
            busy.none("word(0, 0, " + what + ")", x -> x.word(0, 0, what));
        }
        for (int card : NO_CARD) {
            busy.none("card(" + card + ", 0)", x -> x.card(card, 0));
            busy.none("word(" + card + ", 0, 0)", x -> x.word(card, 0, 0));
            busy.none("fits(" + card + ", 0)", x -> x.fits(card, 0));
        }
        int[] noOfCard = {LEAST, -1, 4, MOST};
        for (int what : noOfCard) {
            busy.none("card(0, " + what + ")", x -> x.card(0, what));
        }
        int[] noPlace = {LEAST, -1, 2, 6, MOST};
        for (int place : noPlace) {
            busy.none("word(0, " + place + ", 0)", x -> x.word(0, place, 0));
            busy.none("reading(0, " + place + ", 0)", x -> x.reading(0, place, 0));
        }
        int[] noReading = {LEAST, -1, 1, 4, MOST};
        for (int reading : noReading) {
            busy.none("reading(" + reading + ", 0, 0)", x -> x.reading(reading, 0, 0));
            busy.none("write(1, " + reading + ")", x -> x.write(1, reading));
        }
        int[] noOfReading = {LEAST, -1, 2, 3, MOST};
        for (int what : noOfReading) {
            busy.none("reading(0, 0, " + what + ")", x -> x.reading(0, 0, what));
        }
        int[] noLaw = {LEAST, -2, 2, 4, MOST};
        for (int law : noLaw) {
            busy.isFalse("law(" + law + ")", x -> x.law(law));
        }
        int[] noCleaner = {LEAST, -1, 7, 100, MOST};
        for (int v : noCleaner) {
            busy.isFalse("cleaner(" + v + ")", x -> x.cleaner(v));
        }
        for (int thing : NO_THING) {
            busy.none("fits(0, " + thing + ")", x -> x.fits(0, thing));
        }
    }

    private static void hands(Refusal busy) {
        for (int thing : NO_THING) {
            busy.none("put(" + thing + ", 1)", x -> x.put(thing, 1));
        }
        for (int card : NO_CARD) {
            busy.none("put(1, " + card + ")", x -> x.put(1, card));
            busy.none("take(" + card + ")", x -> x.take(card));
            busy.none("copy(" + card + ")", x -> x.copy(card));
            busy.none("lamp(" + card + ")", x -> x.lamp(card));
            busy.none("write(" + card + ", 0)", x -> x.write(card, 0));
        }
        // thing 0 lies under card 0, thing 1 is in the store
        busy.none("put(0, 1): not in the STORE", x -> x.put(0, 1));
        busy.none("put(0, 0): not in the STORE, the CARD has one", x -> x.put(0, 0));
        busy.none("put(1, 0): the CARD has one", x -> x.put(1, 0));
        busy.none("write(0, 0): it has a THING", x -> x.write(0, 0));
        int[] noLight = {LEAST, -1, 3, 10, MOST};
        for (int v : noLight) {
            busy.isFalse("light(" + v + ")", x -> x.light(v));
        }
        Refusal empty = new Refusal("empty cards", () -> {
            LabelRoom x = busy();
            for (int card = 0; card < 3; card++) {
                x.take(card);
            }
            return x;
        });
        for (int card = 0; card < 3; card++) {
            int none = card;
            empty.none("take(" + card + "): it has none", x -> x.take(none));
        }
    }

    private static void days(Refusal busy) {
        int[] noDays = {LEAST, -1, 0, 61, 100, MOST};
        for (int n : noDays) {
            busy.none("days(" + n + ")", x -> x.days(n));
            busy.none("decades(" + n + ", 1)", x -> x.decades(n, 1L));
            busy.none("decades(" + n + ", min)", x -> x.decades(n, Long.MIN_VALUE));
        }
        Refusal first = new Refusal("no act yet", () -> Check.room("t:a;ct0:a"));
        first.none("undo()", x -> x.undo());
        first.none("back()", x -> x.back());
        first.none("log(0, 0)", x -> x.log(0, 0));
        Refusal undone = new Refusal("all undone", () -> {
            LabelRoom x = busy();
            while (x.undo() > 0) {
                x.count(0);
            }
            return x;
        });
        undone.none("undo()", x -> x.undo());
        Refusal back = new Refusal("back", () -> {
            LabelRoom x = busy();
            x.back();
            return x;
        });
        back.none("undo()", x -> x.undo());
        Refusal other = new Refusal("another COLLECTION", () -> {
            LabelRoom x = busy();
            Check.tell(x, 0, "t:a;ct0i2:a-b");
            x.lamp(0);
            return x;
        });
        other.none("back()", x -> x.back());
    }

    private static void logs(Refusal busy) {
        int[] noDay = {LEAST, -1, 1, 60, MOST};
        for (int i : noDay) {
            busy.none("log(" + i + ", 0)", x -> x.log(i, 0));
        }
        int[] noOf = {LEAST, -1, 3, MOST};
        for (int what : noOf) {
            busy.none("log(0, " + what + ")", x -> x.log(0, what));
            busy.none("matched(" + what + ")", x -> x.matched(what));
        }
    }

    private static void marksAndWords(Refusal busy) {
        for (int thing : NO_THING) {
            busy.none("alone(" + thing + ")", x -> x.alone(thing));
            busy.none("shared(" + thing + ", 0)", x -> x.shared(thing, 0));
            busy.none("shared(0, " + thing + ")", x -> x.shared(0, thing));
        }
        for (int card : NO_CARD) {
            busy.none("suits(" + card + ")", x -> x.suits(card));
            busy.none("blank(" + card + ")", x -> x.blank(card));
        }
        for (int what : NO_WHAT) {
            busy.none("wanted(" + what + ")", x -> x.wanted(what));
        }
        busy.none("wanted(2)", x -> x.wanted(2));
        int[] noPair = {LEAST, -2, 0, 28, MOST};
        for (int i : noPair) {
            busy.none("twins(" + i + ")", x -> x.twins(i));
        }
        int[] noCount = {LEAST, -1, 14, MOST};
        for (int what : noCount) {
            busy.answers("count(" + what + ")", x -> x.count(what), LabelRoom.HIDDEN);
        }
    }

    private static void guesses(Refusal busy) {
        for (int thing : NO_THING) {
            busy.none("stood(" + thing + ", 0, true)", x -> x.stood(thing, 0, true));
        }
        for (int card : NO_CARD) {
            busy.none("stood(0, " + card + ", false)", x -> x.stood(0, card, false));
            busy.none("once(" + card + ", -1)", x -> x.once(card, NONE));
            busy.none("once(" + card + ", 0)", x -> x.once(card, 0));
            busy.none("probe(" + card + ")", x -> x.probe(card));
            busy.none("saves(" + card + ", 0)", x -> x.saves(card, 0));
        }
        int[] noRow = {LEAST, -2, 1728, MOST};
        for (int i : noRow) {
            busy.none("once(0, " + i + ")", x -> x.once(0, i));
        }
        for (int what : NO_WHAT) {
            busy.none("saves(0, " + what + ")", x -> x.saves(0, what));
        }
        busy.none("saves(0, 2)", x -> x.saves(0, 2));
    }

    private static void odds(Refusal busy) {
        for (int card : NO_CARD) {
            busy.none("odds(" + card + ", 1, 50)", x -> x.odds(card, 1, 50));
        }
        int[] noDays = {LEAST, -1, 31, MOST};
        for (int n : noDays) {
            busy.none("odds(0, " + n + ", 50)", x -> x.odds(0, n, 50));
            busy.none("rescue(" + n + ", 50)", x -> x.rescue(n, 50));
        }
        int[] noChance = {LEAST, -1, 101, MOST};
        for (int chance : noChance) {
            busy.none("odds(0, 1, " + chance + ")", x -> x.odds(0, 1, chance));
            busy.none("rescue(1, " + chance + ")", x -> x.rescue(1, chance));
        }
    }

    /** All that has a most is full. */
    private static LabelRoom filled() {
        LabelRoom x = busy();
        Check.tell(x, 1, "y:0");
        Check.tell(x, 1, "y:9");
        for (int i = 0; i < 3; i++) {
            Check.tell(x, 2, "abcdef");
        }
        while (x.stood(2, 0, true) > 0) {
            x.count(10);
        }
        x.days(60);
        return x;
    }

    private static void full() {
        Refusal full = new Refusal("full", RefusedTest::filled);
        full.none("stood(0, 0, true): there are ten", x -> x.stood(0, 0, true));
        full.none("log(60, 0)", x -> x.log(60, 0));
        full.isFalse("law(4)", x -> x.law(4));
        full.none("reading(4, 0, 0)", x -> x.reading(4, 0, 0));
        Refusal law = new Refusal("a fifth LAW", () -> {
            LabelRoom x = filled();
            Check.tape(x, "y:3");
            return x;
        });
        law.none("text(1): there are four", x -> x.text(1));
        Refusal reading = new Refusal("a fifth READING", () -> {
            LabelRoom x = filled();
            Check.tape(x, "-f");
            return x;
        });
        reading.none("text(2): there are four", x -> x.text(2));
        Refusal tape = new Refusal("a full TAPE", () -> {
            LabelRoom x = filled();
            Check.tape(x, "t:;c:a" + " ".repeat(234));
            return x;
        });
        tape.none("feed of one", x -> x.feed(0, 0, 0, 0, 32));
        tape.none("feed of twenty", x -> x.feed(-1, -1, -1, -1, -1));
        tape.isFalse("end(241)", x -> x.end(241));
        Refusal most = new Refusal("a TAPE of 221", () -> {
            LabelRoom x = filled();
            Check.tape(x, " ".repeat(215) + "t:;c:a");
            return x;
        });
        most.none("feed of twenty", x -> x.feed(LEAST | 0x010101, MOST & 0x7f7f7f7f, -1, 0x20202020, -1));
        LabelRoom x = filled();
        Check.due("acts", x.count(13), 40);
        int[] refused = {x.put(9, 9), x.take(9), x.copy(9), x.lamp(9), x.write(9, 9), x.days(0), x.decades(61, 1L)};
        for (int answer : refused) {
            Check.due("refused", answer, NONE);
        }
        Check.due("light", x.light(3), false);
        Check.due("40 acts still", x.count(13), 40);
        for (int left = 39; left >= 0; left--) {
            Check.due("undo", x.undo(), left);
        }
        Check.due("DAY", x.count(6), 21);
    }

    private static LabelRoom withoutMoney() {
        LabelRoom x = Check.room("sm1;t:a;ct0i3:a-b;ci2:a");
        x.copy(0);
        x.lamp(1);
        return x;
    }

    private static void poor() {
        Refusal poor = new Refusal("no MONEY", RefusedTest::withoutMoney);
        poor.none("copy(0)", x -> x.copy(0));
        poor.none("copy(1)", x -> x.copy(1));
    }

    private static void blank() {
        Supplier<LabelRoom> made = () -> {
            LabelRoom x = Check.room("t:a;t:b;ct0i1:a-bcd;ci1:a;c:a");
            x.lamp(0);
            x.lamp(1);
            x.stood(0, 0, true);
            x.stood(1, 2, true);
            return x;
        };
        Refusal blank = new Refusal("no WORD left", made);
        blank.none("copy(0)", x -> x.copy(0));
        blank.none("copy(1)", x -> x.copy(1));
        blank.none("lamp(0)", x -> x.lamp(0));
        blank.none("lamp(1)", x -> x.lamp(1));
        blank.none("once(0, -1): more than three GONE", x -> x.once(0, NONE));
        blank.none("once(0, 0): more than three GONE", x -> x.once(0, 0));
        blank.none("probe(0): more than three GONE", x -> x.probe(0));
        blank.none("saves(0, 0): more than three GONE", x -> x.saves(0, 0));
        blank.none("saves(0, 1): more than three GONE", x -> x.saves(0, 1));
        blank.none("once(2, 0): no row", x -> x.once(2, 0));
        blank.none("probe(2): no row", x -> x.probe(2));
        blank.none("saves(2, 0): no row", x -> x.saves(2, 0));
        blank.none("saves(2, 1): no row", x -> x.saves(2, 1));
        blank.none("once(1, 12): no such one", x -> x.once(1, 12));
        Refusal none = new Refusal("no WORD left in any", () -> {
            LabelRoom x = Check.room("t:a;ct0i1:a-b;ci1:a");
            x.lamp(0);
            x.lamp(1);
            return x;
        });
        none.none("rescue(1, 50)", x -> x.rescue(1, 50));
    }
}
