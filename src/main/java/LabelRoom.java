import java.util.NoSuchElementException;

/**
 * A collection of things with marks and of cards that tell of them in ink that fades.
 * The words in capitals of the document are the names used here.
 */
public final class LabelRoom {
    public static final int NONE = -1;
    public static final int HIDDEN = -1000000;

    private static final int MOST_THINGS = 8;
    private static final int MOST_CARDS = 6;
    private static final int MOST_WORDS = 6;
    private static final int MOST_MARKS = 6;
    private static final int MOST_TEXTS = 4;
    private static final int MOST_ACTS = 40;
    private static final int MOST_LOG = 60;
    private static final int MOST_STOOD = 10;
    private static final int MOST_DAYS = 60;
    private static final int MOST_LIGHT = 9;
    private static final int MOST_CLEANER = 99;
    private static final int MOST_ODDS_DAYS = 30;
    private static final int MARK_SETS = 64;
    private static final int FRESH_INK = 9;
    private static final int NO_SORT = -2;

    private static final int HAS = 0;
    private static final int NOT = 1;
    private static final int LIKE = 2;

    private static final int SORT_COLLECTION = 0;
    private static final int SORT_LAW = 1;
    private static final int SORT_READING = 2;

    private static final long DRAW_TIMES = 6364136223846793005L;
    private static final long DRAW_AND = 1442695040888963407L;
    private static final long ALL_PARTS = 1000000000L;

    private final Tape tape = new Tape();
    private final TextReader reader = new TextReader(tape);
    private final LawReader lawReader = new LawReader(tape);
    private final Collection collection = new Collection();
    private final Laws laws = new Laws();
    private final Words readings = new Words(MOST_TEXTS);
    private int readingCount = 0;
    private final Aging aging = new Aging(collection, laws);
    private final History history = new History();
    private final Matcher matcher = new Matcher(collection);
    private final Guesses guesses = new Guesses(collection);
    private final long[] parts = new long[MOST_ODDS_DAYS + 2];
    private final Shelf imageShelf = new Shelf();
    private final int[] imageLog = new int[Aging.LOG_ROOM];
    private boolean imaged = false;
    private int cleaning = 0;
    private long drawn = 0L;

    public LabelRoom() {
    }

    // ---- texts

    public int feed(int a, int b, int c, int d, int e) {
        int more = tape.solidBytes(a) + tape.solidBytes(b) + tape.solidBytes(c)
            + tape.solidBytes(d) + tape.solidBytes(e);
        if (tape.length + more > Tape.MOST) {
            return NONE;
        }
        tape.append(a);
        tape.append(b);
        tape.append(c);
        tape.append(d);
        tape.append(e);
        return tape.length;
    }

    public boolean end(int n) {
        if (n < 0 || n > tape.length) {
            return false;
        }
        tape.length = n;
        return true;
    }

    public int fault(int sort) {
        if (sort < SORT_COLLECTION || sort > SORT_READING) {
            return NO_SORT;
        }
        boolean sound = sort == SORT_LAW ? lawReader.readLaw()
            : sort == SORT_READING ? reader.readReading() : reader.readCollection();
        return sound ? NONE : tape.at;
    }

    public int text(int sort) {
        if (isFull(sort) || fault(sort) != NONE) {
            return NONE;
        }
        tape.length = 0;
        if (sort == SORT_LAW) {
            return laws.keepNext(lawReader.code, lawReader.size);
        }
        if (sort == SORT_READING) {
            readings.takeRow(readingCount, reader.reading, 0);
            readingCount++;
            return readingCount - 1;
        }
        collection.takeAll(reader.draft);
        history.forget();
        guesses.forget();
        imaged = false;
        return collection.cards;
    }

    private boolean isFull(int sort) {
        if (sort == SORT_LAW) {
            return laws.count >= MOST_TEXTS;
        }
        return sort == SORT_READING && readingCount >= MOST_TEXTS;
    }

    // ---- what is there

    public int thing(int thing, int what) throws NoSuchElementException {
        if (!collection.isThing(thing) || what < 0 || what > 2) {
            throw new NoSuchElementException("no such thing, or nothing of that sort is told of it");
        }
        if (what == 0) {
            return collection.price[thing];
        }
        return what == 1 ? collection.marks[thing] : collection.cardOver(thing);
    }

    public int card(int card, int what) {
        if (!collection.isCard(card)) {
            return NONE;
        }
        switch (what) {
            case 0:
                return collection.fades[card];
            case 1:
                return collection.shelf.under[card];
            case 2:
                return collection.shelf.words.size[card];
            case 3:
                return collection.isRight(card) ? 1 : 0;
            default:
                return NONE;
        }
    }

    public int word(int card, int place, int what) {
        if (!collection.isCard(card)) {
            return NONE;
        }
        return collection.shelf.words.tell(card, place, what);
    }

    public boolean law(int law) {
        if (law < NONE || law >= laws.count) {
            return false;
        }
        laws.holds = law;
        return true;
    }

    public boolean cleaner(int v) {
        if (v < 0 || v > MOST_CLEANER || v == cleaning) {
            return false;
        }
        cleaning = v;
        return true;
    }

    public int fits(int card, int thing) {
        if (!collection.isCard(card) || !collection.isThing(thing)) {
            return NONE;
        }
        return collection.isFit(card, thing) ? 1 : 0;
    }

    public int reading(int reading, int place, int what) {
        if (reading < 0 || reading >= readingCount || what == Words.INK) {
            return NONE;
        }
        return readings.tell(reading, place, what);
    }

    public int count(int what) {
        switch (what) {
            case 0:
                return collection.cards;
            case 1:
                return collection.things;
            case 2:
                return laws.count;
            case 3:
                return readingCount;
            case 4:
                return tape.length;
            case 5:
                return laws.holds;
            case 6:
                return collection.shelf.day;
            case 7:
                return collection.shelf.light;
            case 8:
                return collection.shelf.money;
            case 9:
                return cleaning;
            case 10:
                return guesses.count;
            case 11:
                return collection.goneWords();
            case 12:
                return aging.logLength();
            case 13:
                return history.size;
            default:
                return HIDDEN;
        }
    }

    // ---- acts

    public int put(int thing, int card) {
        if (!collection.isThing(thing) || !collection.isCard(card)
            || collection.cardOver(thing) != NONE || collection.shelf.under[card] != NONE) {
            return NONE;
        }
        history.keep(collection.shelf);
        collection.shelf.under[card] = thing;
        return history.size;
    }

    public int take(int card) {
        if (!collection.isCard(card) || collection.shelf.under[card] == NONE) {
            return NONE;
        }
        history.keep(collection.shelf);
        int taken = collection.shelf.under[card];
        collection.shelf.under[card] = NONE;
        return taken;
    }

    public int copy(int card) {
        if (!hasWordLeft(card) || collection.shelf.money < 1) {
            return NONE;
        }
        history.keep(collection.shelf);
        collection.shelf.money--;
        collection.shelf.words.freshen(card);
        return collection.shelf.money;
    }

    public int lamp(int card) {
        if (!hasWordLeft(card)) {
            return NONE;
        }
        history.keep(collection.shelf);
        collection.shelf.words.dim(card);
        return collection.shelf.words.leftIn(card);
    }

    public boolean light(int v) {
        if (collection.isNone() || v < 0 || v > MOST_LIGHT || v == collection.shelf.light) {
            return false;
        }
        history.keep(collection.shelf);
        collection.shelf.light = v;
        return true;
    }

    public int write(int card, int reading) {
        if (!collection.isCard(card) || reading < 0 || reading >= readingCount
            || collection.shelf.under[card] != NONE) {
            return NONE;
        }
        history.keep(collection.shelf);
        collection.shelf.words.takeRow(card, readings, reading);
        return collection.shelf.words.size[card];
    }

    public int days(int n) {
        if (collection.isNone() || n < 1 || n > MOST_DAYS) {
            return NONE;
        }
        for (int i = 0; i < n; i++) {
            history.keep(collection.shelf);
            aging.passDay();
        }
        return collection.shelf.day;
    }

    public int decades(int n, long seed) {
        if (collection.isNone() || n < 1 || n > MOST_DAYS) {
            return NONE;
        }
        drawn = seed;
        for (int i = 0; i < n; i++) {
            history.keep(collection.shelf);
            clean();
            aging.passDay();
        }
        return collection.shelf.day;
    }

    private void clean() {
        if (draw(100) >= cleaning) {
            return;
        }
        int one = draw(collection.cards);
        int other = draw(collection.cards);
        if (one != other && collection.isCard(one) && collection.isCard(other)) {
            int moved = collection.shelf.under[one];
            collection.shelf.under[one] = collection.shelf.under[other];
            collection.shelf.under[other] = moved;
        }
    }

    private int draw(int m) {
        drawn = drawn * DRAW_TIMES + DRAW_AND;
        return m < 1 ? 0 : (int) ((drawn >>> 33) % m);
    }

    public int undo() {
        return history.undoInto(collection.shelf);
    }

    public int log(int i, int what) {
        return aging.logged(i, what);
    }

    public int image() {
        if (collection.isNone()) {
            return NONE;
        }
        imageShelf.takeAll(collection.shelf);
        System.arraycopy(aging.log, 0, imageLog, 0, Aging.LOG_ROOM);
        imaged = true;
        return collection.shelf.day;
    }

    public int back() {
        if (!imaged) {
            return NONE;
        }
        collection.shelf.takeAll(imageShelf);
        System.arraycopy(imageLog, 0, aging.log, 0, Aging.LOG_ROOM);
        history.forget();
        return collection.shelf.day;
    }

    private boolean hasWordLeft(int card) {
        return collection.isCard(card) && collection.shelf.words.leftIn(card) > 0;
    }

    // ---- questions

    public int right() {
        if (collection.isNone()) {
            return NONE;
        }
        int bits = 0;
        for (int card = 0; card < collection.cards; card++) {
            if (collection.isRight(card)) {
                bits |= 1 << card;
            }
        }
        return bits;
    }

    public int matched(int what) {
        if (collection.isNone() || what < 0 || what > 2) {
            return NONE;
        }
        matcher.findBest();
        if (what == 0) {
            return matcher.bestDigits;
        }
        return what == 1 ? matcher.bestCount : matcher.bestPrice;
    }

    public int clash() {
        return collection.isNone() ? NONE : matcher.leastClash();
    }

    public int blank(int card) {
        return collection.isCard(card) ? aging.daysTillBlank(card) : NONE;
    }

    public int stood(int thing, int card, boolean fitted) {
        if (!collection.isThing(thing) || !collection.isCard(card)) {
            return NONE;
        }
        return guesses.note(thing, card, fitted);
    }

    public int once(int card, int i) {
        if (i < NONE || !guesses.aim(card)) {
            return NONE;
        }
        return i == NONE ? guesses.countRows() : guesses.findRow(i);
    }

    public int probe(int card) {
        return guesses.aim(card) ? guesses.evenThing() : NONE;
    }

    public int saves(int card, int what) {
        if (what < 0 || what > 1 || !guesses.aim(card)) {
            return NONE;
        }
        int row = guesses.kindestRow();
        return what == 0 || row == NONE ? row : guesses.thingsFitting(row);
    }

    public int round() {
        if (collection.isNone()) {
            return NONE;
        }
        int bits = 0;
        for (int card = 0; card < collection.cards; card++) {
            if ((collection.reachedFrom(card) >> card & 1) == 1) {
                bits |= 1 << card;
            }
        }
        return bits;
    }

    public int nowhere() {
        if (collection.isNone()) {
            return NONE;
        }
        int bits = 0;
        for (int card = 0; card < collection.cards; card++) {
            if (collection.shelf.words.named(card, LIKE) >> collection.cards != 0) {
                bits |= 1 << card;
            }
        }
        return bits;
    }

    public int forged() {
        if (collection.isNone()) {
            return NONE;
        }
        Words words = collection.shelf.words;
        int bits = 0;
        for (int card = 0; card < collection.cards; card++) {
            if ((words.named(card, HAS) & words.named(card, NOT)) != 0) {
                bits |= 1 << card;
            }
        }
        return bits;
    }

    public int alone(int thing) {
        if (!collection.isThing(thing)) {
            return NONE;
        }
        int best = NONE;
        for (int named = 0; named < MARK_SETS; named++) {
            if ((best == NONE || Integer.bitCount(named) < Integer.bitCount(best))
                && collection.isToldAlone(thing, named)) {
                best = named;
            }
        }
        return best;
    }

    public int suits(int card) {
        return collection.isCard(card) ? collection.suitedThings(card) : NONE;
    }

    public int wanted(int what) {
        if (collection.isNone() || what < 0 || what > 1) {
            return NONE;
        }
        int best = 0;
        int least = MOST_THINGS + 1;
        for (int card = 0; card < collection.cards; card++) {
            int suited = Integer.bitCount(collection.suitedThings(card));
            if (suited < least) {
                best = card;
                least = suited;
            }
        }
        return what == 0 ? best : least;
    }

    public int perhaps() {
        if (collection.isNone()) {
            return NONE;
        }
        Words words = collection.shelf.words;
        int bits = 0;
        for (int card = 0; card < collection.cards; card++) {
            if (words.leftIn(card) * 2 <= words.size[card]) {
                bits |= 1 << card;
            }
        }
        return bits;
    }

    public int shared(int one, int other) {
        if (!collection.isThing(one) || !collection.isThing(other)) {
            return NONE;
        }
        return collection.marks[one] & collection.marks[other];
    }

    public int twins(int i) {
        if (collection.isNone() || i < NONE) {
            return NONE;
        }
        int found = 0;
        for (int one = 0; one < collection.things; one++) {
            for (int other = one + 1; other < collection.things; other++) {
                if (collection.marks[one] == collection.marks[other]) {
                    if (found == i) {
                        return one * 10 + other;
                    }
                    found++;
                }
            }
        }
        return i == NONE ? found : NONE;
    }

    public int odds(int card, int n, int chance) {
        if (!collection.isCard(card) || !spread(n, chance)) {
            return NONE;
        }
        return (int) partsUnhurt(card);
    }

    public int rescue(int n, int chance) {
        if (collection.isNone() || !spread(n, chance)) {
            return NONE;
        }
        int first = NONE;
        long least = 0L;
        for (int card = 0; card < collection.cards; card++) {
            if (hasWordLeft(card)) {
                long unhurt = partsUnhurt(card);
                if (first == NONE || unhurt < least) {
                    first = card;
                    least = unhurt;
                }
            }
        }
        return first;
    }

    /** Lays the parts out by how many of n days were bright; false if n or chance is out of bounds. */
    private boolean spread(int n, int chance) {
        if (n < 0 || n > MOST_ODDS_DAYS || chance < 0 || chance > 100) {
            return false;
        }
        for (int i = 0; i < parts.length; i++) {
            parts[i] = 0L;
        }
        parts[0] = ALL_PARTS;
        for (int day = 0; day < n; day++) {
            // from the brightest down, so that no part is moved twice on one day
            for (int bright = day; bright >= 0; bright--) {
                long moved = parts[bright] * chance / 100;
                parts[bright] -= moved;
                parts[bright + 1] += moved;
            }
        }
        return true;
    }

    private long partsUnhurt(int card) {
        int weakest = collection.shelf.words.weakestInk(card);
        long sum = 0L;
        for (int bright = 0; bright < parts.length && (weakest == 0 || bright < weakest); bright++) {
            sum += parts[bright];
        }
        return sum;
    }

    /** The bytes that were fed, and the place up to which they have been read. */
    private static final class Tape {
        static final int MOST = 240;
        static final int END = -1;
        static final int SPACE = 32;

        final int[] bytes = new int[MOST];
        int length = 0;
        int at = 0;

        int solidBytes(int number) {
            int solid = 0;
            for (int shift = 24; shift >= 0; shift -= 8) {
                if ((number >>> shift & 255) != 0) {
                    solid++;
                }
            }
            return solid;
        }

        void append(int number) {
            for (int shift = 24; shift >= 0; shift -= 8) {
                int one = number >>> shift & 255;
                if (one != 0 && length < MOST) {
                    bytes[length] = one;
                    length++;
                }
            }
        }

        void rewind() {
            at = 0;
        }

        int peek() {
            while (at < length && bytes[at] == SPACE) {
                at++;
            }
            return at < length ? bytes[at] : END;
        }

        void step() {
            if (at < length) {
                at++;
            }
        }

        boolean accept(int sign) {
            if (peek() != sign) {
                return false;
            }
            step();
            return true;
        }

        /** The number that stands just here; NONE if it is wrong, the place is then where. */
        int readNumber(int digits, int least, int most) {
            int value = 0;
            int taken = 0;
            while (at < length && bytes[at] >= '0' && bytes[at] <= '9') {
                if (taken == digits) {
                    return NONE;
                }
                value = value * 10 + bytes[at] - '0';
                at++;
                taken++;
            }
            if (taken > 0 && (value < least || value > most)) {
                at--;
                return NONE;
            }
            return taken > 0 ? value : NONE;
        }
    }

    /** Rows of words, each word with ink of its own. */
    private static final class Words {
        static final int INK = 2;

        final int[] size;
        final int[] sort;
        final int[] about;
        final int[] ink;

        Words(int rows) {
            int many = Math.max(1, Math.min(MOST_CARDS, rows));
            size = new int[many];
            sort = new int[many * MOST_WORDS];
            about = new int[many * MOST_WORDS];
            ink = new int[many * MOST_WORDS];
        }

        void takeAll(Words other) {
            int rows = Math.min(size.length, other.size.length);
            System.arraycopy(other.size, 0, size, 0, rows);
            System.arraycopy(other.sort, 0, sort, 0, rows * MOST_WORDS);
            System.arraycopy(other.about, 0, about, 0, rows * MOST_WORDS);
            System.arraycopy(other.ink, 0, ink, 0, rows * MOST_WORDS);
        }

        /** The row is as one of the other's, in fresh ink. */
        void takeRow(int row, Words other, int from) {
            if (row < 0 || row >= size.length || from < 0 || from >= other.size.length) {
                return;
            }
            size[row] = 0;
            for (int place = 0; place < other.size[from]; place++) {
                int at = from * MOST_WORDS + place;
                add(row, other.sort[at], other.about[at], FRESH_INK);
            }
        }

        boolean add(int row, int newSort, int newAbout, int newInk) {
            if (row < 0 || row >= size.length || size[row] >= MOST_WORDS) {
                return false;
            }
            int at = row * MOST_WORDS + size[row];
            sort[at] = newSort;
            about[at] = newAbout;
            ink[at] = newInk;
            size[row]++;
            return true;
        }

        int tell(int row, int place, int what) {
            if (row < 0 || row >= size.length || place < 0 || place >= size[row]) {
                return NONE;
            }
            int at = row * MOST_WORDS + place;
            if (what == 0) {
                return sort[at];
            }
            if (what == 1) {
                return about[at];
            }
            return what == INK ? ink[at] : NONE;
        }

        int leftIn(int row) {
            if (row < 0 || row >= size.length) {
                return 0;
            }
            int left = 0;
            for (int place = 0; place < size[row]; place++) {
                if (ink[row * MOST_WORDS + place] > 0) {
                    left++;
                }
            }
            return left;
        }

        void freshen(int row) {
            if (row < 0 || row >= size.length) {
                return;
            }
            for (int place = 0; place < size[row]; place++) {
                if (ink[row * MOST_WORDS + place] > 0) {
                    ink[row * MOST_WORDS + place] = FRESH_INK;
                }
            }
        }

        void dim(int row) {
            if (row < 0 || row >= size.length) {
                return;
            }
            for (int place = 0; place < size[row]; place++) {
                if (ink[row * MOST_WORDS + place] > 0) {
                    ink[row * MOST_WORDS + place]--;
                }
            }
        }

        /** Marks or cards (bits) that words of a sort name, those that are gone left out. */
        int named(int row, int ofSort) {
            if (row < 0 || row >= size.length) {
                return 0;
            }
            int bits = 0;
            for (int place = 0; place < size[row]; place++) {
                int at = row * MOST_WORDS + place;
                if (ink[at] > 0 && sort[at] == ofSort) {
                    bits |= 1 << about[at];
                }
            }
            return bits;
        }

        /** The least ink of the words that are left; 0 if none is. */
        int weakestInk(int row) {
            if (row < 0 || row >= size.length) {
                return 0;
            }
            int weakest = 0;
            for (int place = 0; place < size[row]; place++) {
                int here = ink[row * MOST_WORDS + place];
                if (here > 0 && (weakest == 0 || here < weakest)) {
                    weakest = here;
                }
            }
            return weakest;
        }
    }

    /** All of a collection that acts can change. */
    private static final class Shelf {
        final Words words = new Words(MOST_CARDS);
        final int[] under = new int[MOST_CARDS];
        int light = 0;
        int money = 0;
        int day = 0;

        void takeAll(Shelf other) {
            words.takeAll(other.words);
            System.arraycopy(other.under, 0, under, 0, MOST_CARDS);
            light = other.light;
            money = other.money;
            day = other.day;
        }
    }

    /** Things and cards; without cards there is no collection. */
    private static final class Collection {
        int things = 0;
        int cards = 0;
        final int[] price = new int[MOST_THINGS];
        final int[] marks = new int[MOST_THINGS];
        final int[] fades = new int[MOST_CARDS];
        final Shelf shelf = new Shelf();

        void takeAll(Collection other) {
            things = other.things;
            cards = other.cards;
            System.arraycopy(other.price, 0, price, 0, MOST_THINGS);
            System.arraycopy(other.marks, 0, marks, 0, MOST_THINGS);
            System.arraycopy(other.fades, 0, fades, 0, MOST_CARDS);
            shelf.takeAll(other.shelf);
        }

        boolean isNone() {
            return cards == 0;
        }

        boolean isThing(int thing) {
            return thing >= 0 && thing < things && thing < MOST_THINGS;
        }

        boolean isCard(int card) {
            return card >= 0 && card < cards && card < MOST_CARDS;
        }

        int cardOver(int thing) {
            for (int card = 0; card < cards; card++) {
                if (shelf.under[card] == thing) {
                    return card;
                }
            }
            return NONE;
        }

        /** Whether a card fits a thing as if it lay under it. */
        boolean isFit(int card, int thing) {
            if (!isCard(card) || !isThing(thing)) {
                return false;
            }
            int here = marks[thing];
            for (int place = 0; place < shelf.words.size[card]; place++) {
                int at = card * MOST_WORDS + place;
                if (shelf.words.ink[at] > 0 && !isTrue(at, card, here)) {
                    return false;
                }
            }
            return true;
        }

        private boolean isTrue(int at, int card, int here) {
            int about = shelf.words.about[at];
            switch (shelf.words.sort[at]) {
                case HAS:
                    return (here >> about & 1) == 1;
                case NOT:
                    return (here >> about & 1) == 0;
                default:
                    return about == card ? here != 0 : (marksUnder(about) & here) != 0;
            }
        }

        private int marksUnder(int card) {
            if (card < 0 || card >= cards) {
                return 0;
            }
            int thing = shelf.under[card];
            return thing < 0 || thing >= things ? 0 : marks[thing];
        }

        boolean isRight(int card) {
            return isCard(card) && isFit(card, shelf.under[card]);
        }

        int suitedThings(int card) {
            int bits = 0;
            for (int thing = 0; thing < things; thing++) {
                if (isFit(card, thing)) {
                    bits |= 1 << thing;
                }
            }
            return bits;
        }

        /** The thing of the store that a card fits and the money pays, the cheapest; or NONE. */
        int cheapestFor(int card) {
            int best = NONE;
            for (int thing = 0; thing < things; thing++) {
                if (price[thing] <= shelf.money && (best == NONE || price[thing] < price[best])
                    && cardOver(thing) == NONE && isFit(card, thing)) {
                    best = thing;
                }
            }
            return best;
        }

        int goneWords() {
            int gone = 0;
            for (int card = 0; card < cards; card++) {
                gone += shelf.words.size[card] - shelf.words.leftIn(card);
            }
            return gone;
        }

        int wrongCards() {
            int wrong = 0;
            for (int card = 0; card < cards; card++) {
                if (!isRight(card)) {
                    wrong++;
                }
            }
            return wrong;
        }

        /** Cards (bits) to which one comes from a card by one like or more. */
        int reachedFrom(int card) {
            int reached = shelf.words.named(card, LIKE);
            // each turn goes one like further, and no way needs more likes than there are cards
            for (int turn = 0; turn < cards; turn++) {
                for (int by = 0; by < cards; by++) {
                    if ((reached >> by & 1) == 1) {
                        reached |= shelf.words.named(by, LIKE);
                    }
                }
            }
            return reached;
        }

        boolean isToldAlone(int thing, int named) {
            for (int other = 0; other < things; other++) {
                if (other != thing && ((marks[thing] ^ marks[other]) & named) == 0) {
                    return false;
                }
            }
            return true;
        }
    }

    /** Reads collections and readings from the tape, into a draft of its own. */
    private static final class TextReader {
        private static final String RULE_LETTERS = "lm";
        private static final int[] RULE_USUAL = {1, 20};
        private static final int[] RULE_LEAST = {0, 0};
        private static final int[] RULE_MOST = {9, 99};
        private static final String THING_LETTERS = "p";
        private static final int[] THING_USUAL = {1};
        private static final int[] THING_LEAST = {0};
        private static final int[] THING_MOST = {9};
        private static final String CARD_LETTERS = "ift";
        private static final int[] CARD_USUAL = {5, 1, 8};
        private static final int[] CARD_LEAST = {1, 0, 0};
        private static final int[] CARD_MOST = {9, 9, 8};
        private static final int NO_THING = 8;

        final Tape tape;
        final Collection draft = new Collection();
        final Words reading = new Words(1);
        private final int[] items = new int[3];
        private boolean ruled = false;

        TextReader(Tape tape) {
            this.tape = tape;
        }

        boolean readReading() {
            tape.rewind();
            reading.size[0] = 0;
            return readWords(reading, 0, FRESH_INK) && tape.peek() == Tape.END;
        }

        boolean readCollection() {
            tape.rewind();
            ruled = false;
            draft.things = 0;
            draft.cards = 0;
            draft.shelf.light = RULE_USUAL[0];
            draft.shelf.money = RULE_USUAL[1];
            draft.shelf.day = 0;
            for (int clause = 0; clause <= Tape.MOST; clause++) {
                if (!readClause()) {
                    return false;
                }
                if (!tape.accept(';')) {
                    return tape.peek() == Tape.END && isWhole();
                }
            }
            return false;
        }

        private boolean isWhole() {
            int lying = 0;
            for (int card = 0; card < draft.cards; card++) {
                int thing = draft.shelf.under[card];
                if (thing != NONE) {
                    if (!draft.isThing(thing) || (lying >> thing & 1) == 1) {
                        return false;
                    }
                    lying |= 1 << thing;
                }
            }
            return draft.things > 0 && draft.cards > 0;
        }

        private boolean readClause() {
            int sign = tape.peek();
            if (sign == 's' && !ruled) {
                tape.step();
                return readRules();
            }
            if (sign == 't' && draft.things < MOST_THINGS) {
                tape.step();
                return readThing();
            }
            if (sign == 'c' && draft.cards < MOST_CARDS) {
                tape.step();
                return readCard();
            }
            return false;
        }

        private boolean readRules() {
            ruled = true;
            if (!readItems(RULE_LETTERS, RULE_USUAL, RULE_LEAST, RULE_MOST)) {
                return false;
            }
            draft.shelf.light = items[0];
            draft.shelf.money = items[1];
            return true;
        }

        private boolean readThing() {
            if (!readItems(THING_LETTERS, THING_USUAL, THING_LEAST, THING_MOST) || !tape.accept(':')) {
                return false;
            }
            int marks = readMarks();
            if (marks == NONE) {
                return false;
            }
            draft.price[draft.things] = items[0];
            draft.marks[draft.things] = marks;
            draft.things++;
            return true;
        }

        private int readMarks() {
            int marks = 0;
            for (int i = 0; i <= MOST_MARKS; i++) {
                int sign = tape.peek();
                if (sign < 'a' || sign > 'f') {
                    return marks;
                }
                int mark = 1 << (sign - 'a');
                if ((marks & mark) != 0) {
                    return NONE;
                }
                marks |= mark;
                tape.step();
            }
            return NONE;
        }

        private boolean readCard() {
            if (!readItems(CARD_LETTERS, CARD_USUAL, CARD_LEAST, CARD_MOST) || !tape.accept(':')) {
                return false;
            }
            int card = draft.cards;
            draft.fades[card] = items[1];
            draft.shelf.under[card] = items[2] == NO_THING ? NONE : items[2];
            draft.shelf.words.size[card] = 0;
            draft.cards++;
            return readWords(draft.shelf.words, card, items[0]);
        }

        /** Items of a clause into the row of items; false at a fault. */
        private boolean readItems(String letters, int[] usual, int[] least, int[] most) {
            System.arraycopy(usual, 0, items, 0, Math.min(usual.length, items.length));
            int told = 0;
            for (int i = 0; i <= items.length; i++) {
                int sign = tape.peek();
                int which = sign == Tape.END ? NONE : letters.indexOf((char) sign);
                if (which < 0 || which >= least.length || which >= most.length || which >= items.length) {
                    return true;
                }
                if ((told >> which & 1) == 1) {
                    return false;
                }
                told |= 1 << which;
                tape.step();
                tape.peek();
                int value = tape.readNumber(2, least[which], most[which]);
                if (value == NONE) {
                    return false;
                }
                items[which] = value;
            }
            return true;
        }

        /** One word to six into an empty row; false at a fault. */
        private boolean readWords(Words words, int row, int ink) {
            for (int i = 0; i <= MOST_WORDS; i++) {
                int sign = tape.peek();
                int sort = sign == '>' ? LIKE : sign == '-' ? NOT : HAS;
                if (sort == HAS && (sign < 'a' || sign > 'f')) {
                    return i > 0;
                }
                if (i == MOST_WORDS) {
                    return false;
                }
                if (sort != HAS) {
                    tape.step();
                }
                int about = readAbout(sort);
                if (about == NONE || !words.add(row, sort, about, ink)) {
                    return false;
                }
            }
            return false;
        }

        private int readAbout(int sort) {
            int first = sort == LIKE ? '0' : 'a';
            int last = sort == LIKE ? '9' : 'f';
            int sign = tape.peek();
            if (sign < first || sign > last) {
                return NONE;
            }
            tape.step();
            return sign - first;
        }
    }

    /** Turns a law on the tape into a row of steps: numbers first, then the sign that joins them. */
    private static final class LawReader {
        private static final String LETTERS = "iflpkd";
        private static final int MOST_WITHIN = 6;
        private static final int MOST_DIGITS = 4;
        private static final int MOST_NUMBER = 9999;

        final Tape tape;
        final int[] code = new int[Tape.MOST];
        int size = 0;

        LawReader(Tape tape) {
            this.tape = tape;
        }

        boolean readLaw() {
            tape.rewind();
            size = 0;
            for (int clause = 0; clause <= Tape.MOST; clause++) {
                if (!readClause() || !emit(Laws.GIVE)) {
                    return false;
                }
                if (!tape.accept(';')) {
                    return tape.peek() == Tape.END;
                }
            }
            return false;
        }

        private boolean emit(int step) {
            if (size >= code.length) {
                return false;
            }
            code[size] = step;
            size++;
            return true;
        }

        private boolean readClause() {
            if (!tape.accept('y') || !tape.accept(':')) {
                return false;
            }
            int sign = tape.peek();
            boolean asks = sign == '!' || sign == '(';
            if (!asks) {
                if (!readSum(0)) {
                    return false;
                }
                if (!isComparing(tape.peek())) {
                    return true;
                }
            }
            boolean opened = asks ? readUnit(0) : readComparison(0);
            return opened && readMoreUnits(0) && tape.accept('?') && emit(Laws.ASK) && readSum(0);
        }

        private boolean isComparing(int sign) {
            return sign == '=' || sign == '<' || sign == '>';
        }

        private boolean readUnit(int within) {
            int sign = tape.peek();
            if (sign != '!' && sign != '(') {
                return readSum(within) && readComparison(within);
            }
            if (within >= MOST_WITHIN) {
                return false;
            }
            tape.step();
            if (sign == '!') {
                return readUnit(within + 1) && emit(Laws.NO);
            }
            return readUnit(within + 1) && readMoreUnits(within + 1) && tape.accept(')');
        }

        /** What a condition has behind its first unit; an | waits until all & behind it are joined. */
        private boolean readMoreUnits(int within) {
            boolean waits = false;
            for (int i = 0; i <= Tape.MOST; i++) {
                int sign = tape.peek();
                if (sign != '&' && sign != '|') {
                    break;
                }
                tape.step();
                if (sign == '|') {
                    if (waits && !emit(Laws.OR)) {
                        return false;
                    }
                    waits = true;
                }
                if (!readUnit(within) || sign == '&' && !emit(Laws.AND)) {
                    return false;
                }
            }
            return !waits || emit(Laws.OR);
        }

        /** The sign of a comparison and the sum behind it. */
        private boolean readComparison(int within) {
            int sign = tape.peek();
            if (!isComparing(sign)) {
                return false;
            }
            tape.step();
            int step = sign == '=' ? Laws.SAME : sign == '<' ? Laws.LESS : Laws.MORE;
            return readSum(within) && emit(step);
        }

        /** A sum; a + or - waits until all * and / behind it are joined. */
        private boolean readSum(int within) {
            if (!readAtom(within)) {
                return false;
            }
            int waits = 0;
            for (int i = 0; i <= Tape.MOST; i++) {
                int joins = joining(tape.peek());
                if (joins == 0) {
                    break;
                }
                boolean loose = joins == Laws.PLUS || joins == Laws.MINUS;
                tape.step();
                if (loose && waits != 0 && !emit(waits)) {
                    return false;
                }
                if (!readAtom(within) || !loose && !emit(joins)) {
                    return false;
                }
                if (loose) {
                    waits = joins;
                }
            }
            return waits == 0 || emit(waits);
        }

        private int joining(int sign) {
            switch (sign) {
                case '+':
                    return Laws.PLUS;
                case '-':
                    return Laws.MINUS;
                case '*':
                    return Laws.TIMES;
                case '/':
                    return Laws.PARTED;
                default:
                    return 0;
            }
        }

        private boolean readAtom(int within) {
            int sign = tape.peek();
            if (sign == '[') {
                if (within >= MOST_WITHIN) {
                    return false;
                }
                tape.step();
                if (!readSum(within + 1) || tape.peek() != ']') {
                    return false;
                }
                tape.step();
                return true;
            }
            int letter = sign == Tape.END ? NONE : LETTERS.indexOf((char) sign);
            if (letter >= 0) {
                tape.step();
                return emit(Laws.FIRST_LETTER - letter);
            }
            int number = tape.readNumber(MOST_DIGITS, 0, MOST_NUMBER);
            return number != NONE && emit(number);
        }
    }

    /** The laws as rows of steps, and which holds. Steps of 0 and more are numbers. */
    private static final class Laws {
        static final int FIRST_LETTER = -1;
        static final int LAST_LETTER = -6;
        static final int PLUS = -11;
        static final int MINUS = -12;
        static final int TIMES = -13;
        static final int PARTED = -14;
        static final int SAME = -15;
        static final int LESS = -16;
        static final int MORE = -17;
        static final int AND = -18;
        static final int OR = -19;
        static final int NO = -20;
        static final int ASK = -21;
        static final int GIVE = -22;
        private static final int BOUND = 1000000;

        int count = 0;
        int holds = NONE;
        final int[] letters = new int[6];
        private final int[][] code = new int[MOST_TEXTS][Tape.MOST];
        private final int[] size = new int[MOST_TEXTS];
        // two for each of six brackets and six for what stands outside them would do
        private final int[] stack = new int[32];

        int keepNext(int[] steps, int many) {
            if (count >= MOST_TEXTS || many < 0 || many > Tape.MOST || many > steps.length) {
                return NONE;
            }
            System.arraycopy(steps, 0, code[count], 0, many);
            size[count] = many;
            count++;
            return count - 1;
        }

        /** Worth of the law that holds, by the letters as they are set. */
        int worth() {
            if (holds < 0 || holds >= count) {
                return 0;
            }
            int[] steps = code[holds];
            int top = 0;
            for (int i = 0; i < size[holds]; i++) {
                int step = steps[i];
                if (step == GIVE) {
                    return stack[0];
                }
                if (step == ASK) {
                    top = 0;
                    if (stack[0] == 0) {
                        i = clauseEnd(i);
                    }
                } else if (step >= LAST_LETTER) {
                    if (top >= stack.length) {
                        return 0;
                    }
                    stack[top] = step >= 0 ? step : letters[FIRST_LETTER - step];
                    top++;
                } else if (step == NO) {
                    if (top < 1) {
                        return 0;
                    }
                    stack[top - 1] = 1 - stack[top - 1];
                } else {
                    if (top < 2) {
                        return 0;
                    }
                    top--;
                    stack[top - 1] = join(step, stack[top - 1], stack[top]);
                }
            }
            return 0;
        }

        private int clauseEnd(int from) {
            int i = from;
            while (i < size[holds] && code[holds][i] != GIVE) {
                i++;
            }
            return i;
        }

        private int join(int step, int one, int other) {
            switch (step) {
                case PLUS:
                    return within(one + other);
                case MINUS:
                    return within(one - other);
                case TIMES:
                    return within((long) one * other);
                case PARTED:
                    return other == 0 ? 0 : within(one / other);
                case SAME:
                    return one == other ? 1 : 0;
                case LESS:
                    return one < other ? 1 : 0;
                case MORE:
                    return one > other ? 1 : 0;
                case AND:
                    return one & other;
                default:
                    return one | other;
            }
        }

        private int within(long value) {
            return (int) Math.max(-BOUND, Math.min(BOUND, value));
        }
    }

    /** Lets days go by, and keeps the log of them. */
    private static final class Aging {
        // the log and as many days again as can be undone: a day undone brings back what had left it
        static final int LOG_ROOM = 128;
        private static final int MOST_BLANK = 99;

        final int[] log = new int[LOG_ROOM];
        private final Collection collection;
        private final Laws laws;
        private final int[] inkThen = new int[MOST_WORDS];

        Aging(Collection collection, Laws laws) {
            this.collection = collection;
            this.laws = laws;
        }

        void passDay() {
            Shelf shelf = collection.shelf;
            int goneBefore = collection.goneWords();
            for (int card = 0; card < collection.cards; card++) {
                fadeCard(card);
            }
            int gone = collection.goneWords() - goneBefore;
            int today = shelf.day;
            shelf.day++;
            int changed = changeThings();
            log[today & (LOG_ROOM - 1)] = changed + 16 * collection.wrongCards() + 256 * gone;
        }

        private void fadeCard(int card) {
            Words words = collection.shelf.words;
            for (int place = 0; place < words.size[card]; place++) {
                int at = card * MOST_WORDS + place;
                words.ink[at] = inkAfter(card, place, words.ink[at], collection.shelf.day);
            }
        }

        /** Ink of a word behind a day, if it has so much ahead of it. */
        private int inkAfter(int card, int place, int ink, int day) {
            if (ink <= 0) {
                return 0;
            }
            int loss = collection.shelf.light > 0 ? collection.fades[card] : 0;
            if (laws.holds != NONE) {
                laws.letters[0] = ink;
                laws.letters[1] = collection.fades[card];
                laws.letters[2] = collection.shelf.light;
                laws.letters[3] = place;
                laws.letters[4] = collection.shelf.words.sort[card * MOST_WORDS + place];
                laws.letters[5] = day;
                loss = laws.worth();
            }
            return Math.max(0, ink - Math.max(0, Math.min(9, loss)));
        }

        private int changeThings() {
            int changed = 0;
            for (int card = 0; card < collection.cards; card++) {
                if (!collection.isRight(card)) {
                    int bought = collection.cheapestFor(card);
                    if (bought != NONE) {
                        collection.shelf.under[card] = bought;
                        collection.shelf.money -= collection.price[bought];
                        changed++;
                    }
                }
            }
            return changed;
        }

        int logLength() {
            return Math.min(MOST_LOG, collection.shelf.day);
        }

        int logged(int i, int what) {
            if (i < 0 || i >= logLength() || what < 0 || what > 2) {
                return NONE;
            }
            int entry = log[(collection.shelf.day - 1 - i) & (LOG_ROOM - 1)];
            if (what == 0) {
                return entry & 15;
            }
            return what == 1 ? entry >> 4 & 15 : entry >> 8;
        }

        int daysTillBlank(int card) {
            Shelf shelf = collection.shelf;
            int size = shelf.words.size[card];
            for (int place = 0; place < size; place++) {
                inkThen[place] = shelf.words.ink[card * MOST_WORDS + place];
            }
            for (int behind = 0; behind <= MOST_BLANK; behind++) {
                int left = 0;
                for (int place = 0; place < size; place++) {
                    left += inkThen[place];
                    inkThen[place] = inkAfter(card, place, inkThen[place], shelf.day + behind);
                }
                if (left == 0) {
                    return behind;
                }
            }
            return NONE;
        }
    }

    /** What was ahead of the latest acts, in a ring. */
    private static final class History {
        int size = 0;
        private int next = 0;
        private final Shelf[] kept = new Shelf[MOST_ACTS];

        History() {
            for (int i = 0; i < MOST_ACTS; i++) {
                kept[i] = new Shelf();
            }
        }

        void forget() {
            size = 0;
        }

        void keep(Shelf shelf) {
            kept[next].takeAll(shelf);
            next = (next + 1) % MOST_ACTS;
            size = Math.min(MOST_ACTS, size + 1);
        }

        /** How many acts are left to be undone; NONE if there was none. */
        int undoInto(Shelf shelf) {
            if (size == 0) {
                return NONE;
            }
            next = (next + MOST_ACTS - 1) % MOST_ACTS;
            size--;
            shelf.takeAll(kept[next]);
            return size;
        }
    }

    /** Lays things under cards in thought, so that each card that has one fits it. */
    private static final class Matcher {
        int bestCount = 0;
        int bestPrice = 0;
        int bestDigits = 0;
        private final Collection collection;
        // other things (bits) with which a thing has a mark in common
        private final int[] alike = new int[MOST_THINGS];
        private final int[] byPrice = new int[MOST_THINGS];
        // other cards (bits) that a card is like
        private final int[] likes = new int[MOST_CARDS];
        // cards ahead (bits) that a card is like, or that are like it
        private final int[] linked = new int[MOST_CARDS];
        // things (bits) that a card can have at all
        private final int[] able = new int[MOST_CARDS];
        // how many cards from this one on can have a thing at all
        private final int[] hopes = new int[MOST_CARDS + 1];
        private final int[] chosen = new int[MOST_CARDS];

        Matcher(Collection collection) {
            this.collection = collection;
        }

        void findBest() {
            prepare();
            bestCount = NONE;
            bestPrice = 0;
            bestDigits = 0;
            search(0, 0, 0, 0, 0);
        }

        int leastClash() {
            prepare();
            int best = NONE;
            for (int mask = 1; mask < 1 << collection.cards; mask++) {
                if ((best == NONE || Integer.bitCount(mask) < Integer.bitCount(best)) && !canAll(0, mask, 0)) {
                    best = mask;
                }
            }
            return best;
        }

        private void prepare() {
            for (int thing = 0; thing < collection.things; thing++) {
                alike[thing] = alikeThings(thing);
            }
            sortByPrice();
            Words words = collection.shelf.words;
            for (int card = 0; card < collection.cards; card++) {
                int named = words.named(card, LIKE);
                boolean lost = named >> collection.cards != 0;
                likes[card] = lost ? 0 : named & ~(1 << card);
                able[card] = lost ? 0 : ableThings(card, (named >> card & 1) == 1);
            }
            // what one card cannot have narrows those that are like it, and so on by all of them
            for (int turn = 0; turn < collection.cards; turn++) {
                for (int card = 0; card < collection.cards; card++) {
                    narrow(card);
                }
            }
            hopes[collection.cards] = 0;
            for (int card = collection.cards - 1; card >= 0; card--) {
                linked[card] = linkedAhead(card);
                hopes[card] = hopes[card + 1] + (able[card] == 0 ? 0 : 1);
            }
        }

        private int alikeThings(int thing) {
            int bits = 0;
            for (int other = 0; other < collection.things; other++) {
                if (other != thing && (collection.marks[thing] & collection.marks[other]) != 0) {
                    bits |= 1 << other;
                }
            }
            return bits;
        }

        private void sortByPrice() {
            for (int thing = 0; thing < collection.things; thing++) {
                int at = thing;
                while (at > 0 && collection.price[byPrice[at - 1]] > collection.price[thing]) {
                    byPrice[at] = byPrice[at - 1];
                    at--;
                }
                byPrice[at] = thing;
            }
        }

        private int ableThings(int card, boolean likesItself) {
            int has = collection.shelf.words.named(card, HAS);
            int hasNot = collection.shelf.words.named(card, NOT);
            int bits = 0;
            for (int thing = 0; thing < collection.things; thing++) {
                int marks = collection.marks[thing];
                if ((marks & has) == has && (marks & hasNot) == 0 && !(likesItself && marks == 0)) {
                    bits |= 1 << thing;
                }
            }
            return bits;
        }

        /** Leaves a card the things for which each card that it is like can have one alike. */
        private void narrow(int card) {
            for (int other = 0; other < collection.cards; other++) {
                if ((likes[card] >> other & 1) == 1) {
                    for (int thing = 0; thing < collection.things; thing++) {
                        if ((alike[thing] & able[other]) == 0) {
                            able[card] &= ~(1 << thing);
                        }
                    }
                }
            }
        }

        private int linkedAhead(int card) {
            int bits = 0;
            for (int ahead = 0; ahead < card; ahead++) {
                if ((likes[card] >> ahead & 1) == 1 || (likes[ahead] >> card & 1) == 1) {
                    bits |= 1 << ahead;
                }
            }
            return bits;
        }

        /** Goes through all ways by rising digits, so that of equal ones the first stays. */
        private void search(int card, int used, int count, int price, int digits) {
            int reach = card > collection.cards ? NONE : count + hopes[card];
            if (reach < bestCount || reach == bestCount && price + leastPrices(used, reach - count) >= bestPrice) {
                return;
            }
            if (card >= collection.cards) {
                bestCount = count;
                bestPrice = price;
                bestDigits = digits;
                return;
            }
            int open = able[card] & ~used;
            for (int thing = 0; thing < collection.things; thing++) {
                if ((open >> thing & 1) == 1 && agrees(card, thing)) {
                    chosen[card] = thing;
                    search(card + 1, used | 1 << thing, count + 1, price + collection.price[thing],
                        digits * 10 + thing);
                }
            }
            if (agrees(card, NONE)) {
                chosen[card] = NONE;
                search(card + 1, used, count, price, digits * 10 + 9);
            }
        }

        /** What so many of the things that are not used cost at least. */
        private int leastPrices(int used, int many) {
            int sum = 0;
            int taken = 0;
            for (int i = 0; i < collection.things && taken < many; i++) {
                if ((used >> byPrice[i] & 1) == 0) {
                    sum += collection.price[byPrice[i]];
                    taken++;
                }
            }
            return sum;
        }

        /** Whether the cards of a mask from this one on can all have things, and no other one has any. */
        private boolean canAll(int card, int mask, int used) {
            if (card >= collection.cards) {
                return true;
            }
            if ((mask >> card & 1) == 0) {
                chosen[card] = NONE;
                return agrees(card, NONE) && canAll(card + 1, mask, used);
            }
            int open = able[card] & ~used;
            for (int thing = 0; thing < collection.things; thing++) {
                if ((open >> thing & 1) == 1 && agrees(card, thing)) {
                    chosen[card] = thing;
                    if (canAll(card + 1, mask, used | 1 << thing)) {
                        return true;
                    }
                }
            }
            return false;
        }

        /** Whether no like between this card and those ahead of it is untrue, if this one has that thing. */
        private boolean agrees(int card, int thing) {
            if (linked[card] == 0) {
                return true;
            }
            for (int ahead = 0; ahead < card; ahead++) {
                int other = chosen[ahead];
                boolean asked = thing != NONE && (likes[card] >> ahead & 1) == 1;
                boolean asking = other != NONE && (likes[ahead] >> card & 1) == 1;
                if ((asked || asking) && (thing == NONE || other == NONE || (alike[thing] >> other & 1) == 0)) {
                    return false;
                }
            }
            return true;
        }
    }

    /** What stood under which card, and what words that are gone could have been by that. */
    private static final class Guesses {
        private static final int MOST_GONE = 3;
        private static final int CHOICES = 12;

        int count = 0;
        private final Collection collection;
        private final int[] things = new int[MOST_STOOD];
        private final int[] cards = new int[MOST_STOOD];
        private final boolean[] fitted = new boolean[MOST_STOOD];
        private final int[] fitting = new int[MOST_THINGS];
        private int aimed = 0;
        private int gone = 0;
        private int rows = 0;
        private int leftHas = 0;
        private int leftNot = 0;
        private int rowHas = 0;
        private int rowNot = 0;

        Guesses(Collection collection) {
            this.collection = collection;
        }

        void forget() {
            count = 0;
        }

        int note(int thing, int card, boolean didFit) {
            if (count >= MOST_STOOD) {
                return NONE;
            }
            things[count] = thing;
            cards[count] = card;
            fitted[count] = didFit;
            count++;
            return count;
        }

        /** Makes a card the one that is asked about; false if it cannot be. */
        boolean aim(int card) {
            if (!collection.isCard(card)) {
                return false;
            }
            Words words = collection.shelf.words;
            gone = words.size[card] - words.leftIn(card);
            if (gone > MOST_GONE) {
                return false;
            }
            aimed = card;
            leftHas = words.named(card, HAS);
            leftNot = words.named(card, NOT);
            rows = 1;
            for (int i = 0; i < gone; i++) {
                rows *= CHOICES;
            }
            return true;
        }

        int countRows() {
            int found = 0;
            for (int row = 0; row < rows; row++) {
                if (isRow(row)) {
                    found++;
                }
            }
            return found;
        }

        int findRow(int i) {
            int found = 0;
            for (int row = 0; row < rows; row++) {
                if (isRow(row)) {
                    if (found == i) {
                        return row;
                    }
                    found++;
                }
            }
            return NONE;
        }

        int evenThing() {
            for (int thing = 0; thing < MOST_THINGS; thing++) {
                fitting[thing] = 0;
            }
            int found = 0;
            for (int row = 0; row < rows; row++) {
                if (isRow(row)) {
                    found++;
                    for (int thing = 0; thing < collection.things; thing++) {
                        fitting[thing] += wouldFit(thing) ? 1 : 0;
                    }
                }
            }
            int best = NONE;
            int bestApart = 0;
            for (int thing = 0; thing < collection.things && found > 0; thing++) {
                int apart = Math.abs(2 * fitting[thing] - found);
                if (best == NONE || apart < bestApart) {
                    best = thing;
                    bestApart = apart;
                }
            }
            return best;
        }

        int kindestRow() {
            int best = NONE;
            int most = 0;
            for (int row = 0; row < rows; row++) {
                if (isRow(row)) {
                    int many = thingsFitting(row);
                    if (best == NONE || many > most) {
                        best = row;
                        most = many;
                    }
                }
            }
            return best;
        }

        int thingsFitting(int row) {
            layOut(row);
            int many = 0;
            for (int thing = 0; thing < collection.things; thing++) {
                many += wouldFit(thing) ? 1 : 0;
            }
            return many;
        }

        private void layOut(int row) {
            rowHas = leftHas;
            rowNot = leftNot;
            // each word that is gone is one digit of the row, and its digit 0 is a word, too
            int rest = row;
            for (int i = 0; i < gone; i++) {
                int digit = rest % CHOICES;
                rest /= CHOICES;
                if (digit < MOST_MARKS) {
                    rowHas |= 1 << digit;
                } else {
                    rowNot |= 1 << (digit - MOST_MARKS);
                }
            }
        }

        private boolean isRow(int row) {
            layOut(row);
            for (int i = 0; i < count; i++) {
                if (cards[i] == aimed && wouldFit(things[i]) != fitted[i]) {
                    return false;
                }
            }
            return true;
        }

        private boolean wouldFit(int thing) {
            if (!collection.isThing(thing)) {
                return false;
            }
            int marks = collection.marks[thing];
            return (marks & rowHas) == rowHas && (marks & rowNot) == 0;
        }
    }
}
