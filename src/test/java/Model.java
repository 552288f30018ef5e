import java.util.ArrayList;
import java.util.List;
import java.util.NoSuchElementException;

/**
 * The document written down once more, as plainly as can be and without a thought for cost: copies of
 * the whole state for acts and images, all ways tried one by one. ModelTest holds LabelRoom against it.
 */
final class Model {
    private static final Grammar COLLECTIONS = Grammar.ofCollections();
    private static final Grammar LAWS = Grammar.ofLaws();
    private static final Grammar READINGS = Grammar.ofReadings();

    private record Word(int sort, int about, int ink) {
        Word withInk(int left) {
            return new Word(sort, about, Math.max(0, left));
        }

        boolean isGone() {
            return ink == 0;
        }
    }

    private static final class State {
        List<List<Word>> words = new ArrayList<>();
        List<Integer> under = new ArrayList<>();
        List<int[]> log = new ArrayList<>();
        int light;
        int money;
        int day;

        State twin() {
            State twin = new State();
            for (List<Word> row : words) {
                twin.words.add(new ArrayList<>(row));
            }
            twin.under.addAll(under);
            twin.log.addAll(log);
            twin.light = light;
            twin.money = money;
            twin.day = day;
            return twin;
        }
    }

    private record Stood(int thing, int card, boolean fitted) {
    }

    private String tape = "";
    private final List<Integer> prices = new ArrayList<>();
    private final List<Integer> marks = new ArrayList<>();
    private final List<Integer> fades = new ArrayList<>();
    private State now = new State();
    private State image = null;
    private final List<State> acts = new ArrayList<>();
    private final List<String> laws = new ArrayList<>();
    private final List<List<Word>> readings = new ArrayList<>();
    private final List<Stood> stood = new ArrayList<>();
    private int holds = -1;
    private int cleaner = 0;
    private long x = 0;

    // ---- texts

    int feed(int a, int b, int c, int d, int e) {
        StringBuilder more = new StringBuilder();
        for (int number : new int[] {a, b, c, d, e}) {
            for (byte one : java.nio.ByteBuffer.allocate(4).putInt(number).array()) {
                if (one != 0) {
                    more.append((char) (one & 255));
                }
            }
        }
        if (tape.length() + more.length() > 240) {
            return -1;
        }
        tape += more;
        return tape.length();
    }

    boolean end(int n) {
        if (n < 0 || n > tape.length()) {
            return false;
        }
        tape = tape.substring(0, n);
        return true;
    }

    int fault(int sort) {
        switch (sort) {
            case 0:
                return Grammar.collectionFault(COLLECTIONS, tape);
            case 1:
                return LAWS.fault("TEXT", tape);
            case 2:
                return READINGS.fault("TEXT", tape);
            default:
                return -2;
        }
    }

    int text(int sort) {
        if (fault(sort) != -1 || sort == 1 && laws.size() == 4 || sort == 2 && readings.size() == 4) {
            return -1;
        }
        String plain = tape.replace(" ", "");
        tape = "";
        if (sort == 1) {
            laws.add(plain);
            return laws.size() - 1;
        }
        if (sort == 2) {
            readings.add(wordsOf(plain, 9));
            return readings.size() - 1;
        }
        tellCollection(plain);
        return fades.size();
    }

    private void tellCollection(String plain) {
        prices.clear();
        marks.clear();
        fades.clear();
        now = new State();
        now.light = 1;
        now.money = 20;
        image = null;
        acts.clear();
        stood.clear();
        for (String clause : plain.split(";")) {
            String head = clause.split(":")[0].substring(1);
            String rest = clause.contains(":") ? clause.substring(clause.indexOf(':') + 1) : "";
            if (clause.charAt(0) == 's') {
                now.light = item(head, "l", 1);
                now.money = item(head, "m", 20);
            } else if (clause.charAt(0) == 't') {
                prices.add(item(head, "p", 1));
                marks.add(rest.chars().map(sign -> 1 << sign - 'a').sum());
            } else {
                fades.add(item(head, "f", 1));
                int thing = item(head, "t", 8);
                now.under.add(thing == 8 ? -1 : thing);
                now.words.add(wordsOf(rest, item(head, "i", 5)));
            }
        }
    }

    private static int item(String head, String letter, int usual) {
        int at = head.indexOf(letter);
        if (at < 0) {
            return usual;
        }
        return Integer.parseInt(head.substring(at + 1).split("[a-z]")[0]);
    }

    private static List<Word> wordsOf(String text, int ink) {
        List<Word> words = new ArrayList<>();
        for (int i = 0; i < text.length(); i++) {
            char sign = text.charAt(i);
            if (sign == '>') {
                words.add(new Word(2, text.charAt(++i) - '0', ink));
            } else if (sign == '-') {
                words.add(new Word(1, text.charAt(++i) - 'a', ink));
            } else {
                words.add(new Word(0, sign - 'a', ink));
            }
        }
        return words;
    }

    // ---- laws, by cutting the text at its loosest sign that is in no bracket

    private static int cut(String text, String signs, boolean last) {
        int in = 0;
        int found = -1;
        for (int i = 0; i < text.length(); i++) {
            char sign = text.charAt(i);
            in += sign == '(' || sign == '[' ? 1 : sign == ')' || sign == ']' ? -1 : 0;
            if (in == 0 && signs.indexOf(sign) >= 0 && (last || found < 0)) {
                found = i;
            }
        }
        return found;
    }

    private static boolean holds(String text, int[] letters) {
        for (String signs : new String[] {"|", "&"}) {
            int at = cut(text, signs, false);
            if (at >= 0) {
                boolean one = holds(text.substring(0, at), letters);
                boolean other = holds(text.substring(at + 1), letters);
                return signs.equals("|") ? one || other : one && other;
            }
        }
        if (text.charAt(0) == '!') {
            return !holds(text.substring(1), letters);
        }
        if (text.charAt(0) == '(') {
            return holds(text.substring(1, text.length() - 1), letters);
        }
        int at = cut(text, "=<>", false);
        long one = sum(text.substring(0, at), letters);
        long other = sum(text.substring(at + 1), letters);
        return text.charAt(at) == '=' ? one == other : text.charAt(at) == '<' ? one < other : one > other;
    }

    private static long sum(String text, int[] letters) {
        for (String signs : new String[] {"+-", "*/"}) {
            int at = cut(text, signs, true);
            if (at >= 0) {
                long one = sum(text.substring(0, at), letters);
                long other = sum(text.substring(at + 1), letters);
                long both;
                switch (text.charAt(at)) {
                    case '+':
                        both = one + other;
                        break;
                    case '-':
                        both = one - other;
                        break;
                    case '*':
                        both = one * other;
                        break;
                    default:
                        both = other == 0 ? 0 : one / other;
                        break;
                }
                return both > 1000000 ? 1000000 : both < -1000000 ? -1000000 : both;
            }
        }
        if (text.charAt(0) == '[') {
            return sum(text.substring(1, text.length() - 1), letters);
        }
        int letter = "iflpkd".indexOf(text.charAt(0));
        return letter >= 0 ? letters[letter] : Long.parseLong(text);
    }

    private static long worth(String law, int... letters) {
        for (String clause : law.split(";")) {
            String body = clause.substring(2);
            int asked = body.indexOf('?');
            if (asked < 0 || holds(body.substring(0, asked), letters)) {
                return sum(body.substring(asked + 1), letters);
            }
        }
        return 0;
    }

    // ---- what is there

    private int cards() {
        return fades.size();
    }

    private int things() {
        return prices.size();
    }

    private boolean none() {
        return fades.isEmpty();
    }

    private boolean isCard(int card) {
        return card >= 0 && card < cards();
    }

    private boolean isThing(int thing) {
        return thing >= 0 && thing < things();
    }

    private boolean isTrue(Word word, int card, int thing, List<Integer> under) {
        int here = marks.get(thing);
        if (word.sort == 0) {
            return (here & 1 << word.about) != 0;
        }
        if (word.sort == 1) {
            return (here & 1 << word.about) == 0;
        }
        if (word.about >= cards()) {
            return false;
        }
        int other = word.about == card ? thing : under.get(word.about);
        return other >= 0 && (marks.get(other) & here) != 0;
    }

    private boolean fit(int card, int thing, List<Integer> under) {
        for (Word word : now.words.get(card)) {
            if (!word.isGone() && !isTrue(word, card, thing, under)) {
                return false;
            }
        }
        return true;
    }

    private boolean isRight(int card) {
        return now.under.get(card) >= 0 && fit(card, now.under.get(card), now.under);
    }

    int thing(int thing, int what) {
        if (!isThing(thing) || what < 0 || what > 2) {
            throw new NoSuchElementException();
        }
        return what == 0 ? prices.get(thing) : what == 1 ? marks.get(thing) : now.under.indexOf(thing);
    }

    int card(int card, int what) {
        if (!isCard(card) || what < 0 || what > 3) {
            return -1;
        }
        return new int[] {fades.get(card), now.under.get(card), now.words.get(card).size(),
            isRight(card) ? 1 : 0}[what];
    }

    int word(int card, int place, int what) {
        if (!isCard(card) || place < 0 || place >= now.words.get(card).size() || what < 0 || what > 2) {
            return -1;
        }
        Word word = now.words.get(card).get(place);
        return new int[] {word.sort, word.about, word.ink}[what];
    }

    boolean law(int law) {
        if (law < -1 || law >= laws.size()) {
            return false;
        }
        holds = law;
        return true;
    }

    boolean cleaner(int v) {
        if (v < 0 || v > 99 || v == cleaner) {
            return false;
        }
        cleaner = v;
        return true;
    }

    int fits(int card, int thing) {
        if (!isCard(card) || !isThing(thing)) {
            return -1;
        }
        return fit(card, thing, now.under) ? 1 : 0;
    }

    int reading(int reading, int place, int what) {
        if (reading < 0 || reading >= readings.size() || place < 0 || place >= readings.get(reading).size()
            || what < 0 || what > 1) {
            return -1;
        }
        Word word = readings.get(reading).get(place);
        return what == 0 ? word.sort : word.about;
    }

    int count(int what) {
        if (what < 0 || what > 13) {
            return -1000000;
        }
        int gone = 0;
        for (List<Word> row : now.words) {
            gone += (int) row.stream().filter(Word::isGone).count();
        }
        return new int[] {cards(), things(), laws.size(), readings.size(), tape.length(), holds, now.day, now.light,
            now.money, cleaner, stood.size(), gone, now.log.size(), acts.size()}[what];
    }

    // ---- acts

    private void act() {
        acts.add(now.twin());
        if (acts.size() > 40) {
            acts.remove(0);
        }
    }

    private long left(int card) {
        return now.words.get(card).stream().filter(word -> !word.isGone()).count();
    }

    int put(int thing, int card) {
        if (!isThing(thing) || !isCard(card) || now.under.contains(thing) || now.under.get(card) >= 0) {
            return -1;
        }
        act();
        now.under.set(card, thing);
        return acts.size();
    }

    int take(int card) {
        if (!isCard(card) || now.under.get(card) < 0) {
            return -1;
        }
        act();
        return now.under.set(card, -1);
    }

    int copy(int card) {
        if (!isCard(card) || now.money == 0 || left(card) == 0) {
            return -1;
        }
        act();
        now.money--;
        now.words.get(card).replaceAll(word -> word.isGone() ? word : word.withInk(9));
        return now.money;
    }

    int lamp(int card) {
        if (!isCard(card) || left(card) == 0) {
            return -1;
        }
        act();
        now.words.get(card).replaceAll(word -> word.withInk(word.ink - 1));
        return (int) left(card);
    }

    boolean light(int v) {
        if (none() || v < 0 || v > 9 || v == now.light) {
            return false;
        }
        act();
        now.light = v;
        return true;
    }

    int write(int card, int reading) {
        if (!isCard(card) || reading < 0 || reading >= readings.size() || now.under.get(card) >= 0) {
            return -1;
        }
        act();
        now.words.set(card, new ArrayList<>(readings.get(reading)));
        return now.words.get(card).size();
    }

    private int inkThen(int card, int place, Word word, int day) {
        if (word.isGone()) {
            return 0;
        }
        long loss = now.light == 0 ? 0 : fades.get(card);
        if (holds >= 0) {
            loss = worth(laws.get(holds), word.ink, fades.get(card), now.light, place, word.sort, day);
        }
        loss = loss < 0 ? 0 : loss > 9 ? 9 : loss;
        return (int) Math.max(0, word.ink - loss);
    }

    private void aDay() {
        int gone = 0;
        for (int card = 0; card < cards(); card++) {
            List<Word> row = now.words.get(card);
            for (int place = 0; place < row.size(); place++) {
                Word word = row.get(place);
                Word then = word.withInk(inkThen(card, place, word, now.day));
                gone += !word.isGone() && then.isGone() ? 1 : 0;
                row.set(place, then);
            }
        }
        now.day++;
        int changed = 0;
        for (int card = 0; card < cards(); card++) {
            if (isRight(card)) {
                continue;
            }
            int best = -1;
            for (int price = 0; price <= Math.min(9, now.money) && best < 0; price++) {
                for (int thing = 0; thing < things() && best < 0; thing++) {
                    if (prices.get(thing) == price && !now.under.contains(thing) && fit(card, thing, now.under)) {
                        best = thing;
                    }
                }
            }
            if (best >= 0) {
                now.under.set(card, best);
                now.money -= prices.get(best);
                changed++;
            }
        }
        int wrong = cards() - Integer.bitCount(right());
        now.log.add(0, new int[] {changed, wrong, gone});
        if (now.log.size() > 60) {
            now.log.remove(60);
        }
    }

    int days(int n) {
        if (none() || n < 1 || n > 60) {
            return -1;
        }
        for (int i = 0; i < n; i++) {
            act();
            aDay();
        }
        return now.day;
    }

    private int draw(int m) {
        x = x * 6364136223846793005L + 1442695040888963407L;
        return (int) Long.remainderUnsigned(x >>> 33, m);
    }

    int decades(int n, long seed) {
        if (none() || n < 1 || n > 60) {
            return -1;
        }
        x = seed;
        for (int i = 0; i < n; i++) {
            act();
            if (draw(100) < cleaner) {
                java.util.Collections.swap(now.under, draw(cards()), draw(cards()));
            }
            aDay();
        }
        return now.day;
    }

    int undo() {
        if (acts.isEmpty()) {
            return -1;
        }
        now = acts.remove(acts.size() - 1);
        return acts.size();
    }

    int log(int i, int what) {
        return i < 0 || i >= now.log.size() || what < 0 || what > 2 ? -1 : now.log.get(i)[what];
    }

    int image() {
        if (none()) {
            return -1;
        }
        image = now.twin();
        return now.day;
    }

    int back() {
        if (image == null) {
            return -1;
        }
        now = image.twin();
        acts.clear();
        return now.day;
    }

    // ---- questions

    private interface Asked {
        boolean of(int number);
    }

    private static int bits(int many, Asked asked) {
        int bits = 0;
        for (int i = 0; i < many; i++) {
            bits += asked.of(i) ? 1 << i : 0;
        }
        return bits;
    }

    private int cardBits(Asked asked) {
        return none() ? -1 : bits(cards(), asked);
    }

    int right() {
        return cardBits(this::isRight);
    }

    /** Whether this is a way to lay things under cards: no thing twice, and each card fits its own. */
    private boolean isWay(List<Integer> under) {
        for (int card = 0; card < under.size(); card++) {
            int thing = under.get(card);
            if (thing >= 0 && (under.indexOf(thing) != card || !fit(card, thing, under))) {
                return false;
            }
        }
        return true;
    }

    /** The next way of all, by rising digits; false behind the last. */
    private boolean step(List<Integer> under) {
        for (int card = under.size() - 1; card >= 0; card--) {
            if (under.get(card) >= 0) {
                under.set(card, under.get(card) + 1 == things() ? -1 : under.get(card) + 1);
                return true;
            }
            under.set(card, 0);
        }
        return false;
    }

    private List<Integer> firstWay() {
        List<Integer> under = new ArrayList<>();
        for (int card = 0; card < cards(); card++) {
            under.add(0);
        }
        return under;
    }

    int matched(int what) {
        if (none() || what < 0 || what > 2) {
            return -1;
        }
        int[] best = null;
        List<Integer> under = firstWay();
        do {
            if (isWay(under)) {
                int digits = 0;
                int many = 0;
                int price = 0;
                for (int thing : under) {
                    digits = digits * 10 + (thing < 0 ? 9 : thing);
                    many += thing < 0 ? 0 : 1;
                    price += thing < 0 ? 0 : prices.get(thing);
                }
                if (best == null || many > best[1] || many == best[1] && price < best[2]) {
                    best = new int[] {digits, many, price};
                }
            }
        } while (step(under));
        return best[what];
    }

    int clash() {
        if (none()) {
            return -1;
        }
        boolean[] can = new boolean[1 << cards()];
        List<Integer> under = firstWay();
        do {
            if (isWay(under)) {
                List<Integer> way = under;
                can[bits(cards(), card -> way.get(card) >= 0)] = true;
            }
        } while (step(under));
        for (int size = 1; size <= cards(); size++) {
            for (int mask = 1; mask < can.length; mask++) {
                if (Integer.bitCount(mask) == size && !can[mask]) {
                    return mask;
                }
            }
        }
        return -1;
    }

    int blank(int card) {
        if (!isCard(card)) {
            return -1;
        }
        List<Word> row = new ArrayList<>(now.words.get(card));
        int behind = 0;
        while (behind <= 99 && !row.stream().allMatch(Word::isGone)) {
            for (int place = 0; place < row.size(); place++) {
                Word word = row.get(place);
                row.set(place, word.withInk(inkThen(card, place, word, now.day + behind)));
            }
            behind++;
        }
        return behind <= 99 ? behind : -1;
    }

    int stood(int thing, int card, boolean fitted) {
        if (!isThing(thing) || !isCard(card) || stood.size() == 10) {
            return -1;
        }
        stood.add(new Stood(thing, card, fitted));
        return stood.size();
    }

    /** Words of a card by a row: those that are left but for likes, and those that the row puts. */
    private List<Word> wordsBy(int card, int row) {
        List<Word> words = new ArrayList<>(now.words.get(card));
        for (int place = words.size() - 1; place >= 0; place--) {
            if (words.get(place).isGone()) {
                words.set(place, new Word(row % 12 / 6, row % 6, 1));
                row /= 12;
            } else if (words.get(place).sort == 2) {
                words.remove(place);
            }
        }
        return words;
    }

    private boolean fitsBy(int card, int row, int thing) {
        return wordsBy(card, row).stream().allMatch(word -> isTrue(word, card, thing, now.under));
    }

    private List<Integer> rows(int card) {
        if (!isCard(card)) {
            return null;
        }
        int gone = now.words.get(card).size() - (int) left(card);
        if (gone > 3) {
            return null;
        }
        List<Integer> rows = new ArrayList<>();
        for (int row = 0; row < new int[] {1, 12, 144, 1728}[gone]; row++) {
            boolean so = true;
            for (Stood one : stood) {
                so = so && (one.card != card || fitsBy(card, row, one.thing) == one.fitted);
            }
            if (so) {
                rows.add(row);
            }
        }
        return rows;
    }

    int once(int card, int i) {
        List<Integer> rows = rows(card);
        if (rows == null || i < -1 || i >= rows.size()) {
            return -1;
        }
        return i == -1 ? rows.size() : rows.get(i);
    }

    int probe(int card) {
        List<Integer> rows = rows(card);
        if (rows == null || rows.isEmpty()) {
            return -1;
        }
        int best = -1;
        long bestApart = Long.MAX_VALUE;
        for (int thing = 0; thing < things(); thing++) {
            int asked = thing;
            long yes = rows.stream().filter(row -> fitsBy(card, row, asked)).count();
            long apart = Math.abs(yes - (rows.size() - yes));
            if (apart < bestApart) {
                best = thing;
                bestApart = apart;
            }
        }
        return best;
    }

    int saves(int card, int what) {
        List<Integer> rows = rows(card);
        if (rows == null || rows.isEmpty() || what < 0 || what > 1) {
            return -1;
        }
        int[] best = {-1, -1};
        for (int row : rows) {
            int many = Integer.bitCount(bits(things(), thing -> fitsBy(card, row, thing)));
            if (many > best[1]) {
                best = new int[] {row, many};
            }
        }
        return best[what];
    }

    private boolean leads(int from, int to, int steps) {
        for (Word word : now.words.get(from)) {
            if (!word.isGone() && word.sort == 2 && word.about < cards()
                && (word.about == to || steps > 1 && leads(word.about, to, steps - 1))) {
                return true;
            }
        }
        return false;
    }

    int round() {
        return cardBits(card -> leads(card, card, 6));
    }

    int nowhere() {
        return cardBits(card -> now.words.get(card).stream()
            .anyMatch(word -> !word.isGone() && word.sort == 2 && word.about >= cards()));
    }

    int forged() {
        return cardBits(card -> now.words.get(card).stream().anyMatch(one -> !one.isGone() && one.sort == 0
            && now.words.get(card).stream()
                .anyMatch(other -> !other.isGone() && other.sort == 1 && other.about == one.about)));
    }

    int alone(int thing) {
        if (!isThing(thing)) {
            return -1;
        }
        for (int size = 0; size <= 6; size++) {
            for (int named = 0; named < 64; named++) {
                int told = marks.get(thing) & named;
                int by = named;
                if (Integer.bitCount(named) == size
                    && marks.stream().filter(other -> (other & by) == told).count() == 1) {
                    return named;
                }
            }
        }
        return -1;
    }

    int suits(int card) {
        return isCard(card) ? bits(things(), thing -> fit(card, thing, now.under)) : -1;
    }

    int wanted(int what) {
        if (none() || what < 0 || what > 1) {
            return -1;
        }
        for (int many = 0;; many++) {
            for (int card = 0; card < cards(); card++) {
                if (Integer.bitCount(suits(card)) == many) {
                    return what == 0 ? card : many;
                }
            }
        }
    }

    int perhaps() {
        return cardBits(card -> (now.words.get(card).size() - left(card)) * 2 >= now.words.get(card).size());
    }

    int shared(int one, int other) {
        return isThing(one) && isThing(other) ? marks.get(one) & marks.get(other) : -1;
    }

    int twins(int i) {
        List<Integer> pairs = new ArrayList<>();
        for (int pair = 0; pair < 78; pair++) {
            int one = pair / 10;
            int other = pair % 10;
            if (one < other && isThing(other) && marks.get(one).equals(marks.get(other))) {
                pairs.add(pair);
            }
        }
        if (none() || i < -1 || i >= pairs.size()) {
            return -1;
        }
        return i == -1 ? pairs.size() : pairs.get(i);
    }

    int odds(int card, int n, int chance) {
        if (!isCard(card) || n < 0 || n > 30 || chance < 0 || chance > 100) {
            return -1;
        }
        long[] parts = new long[32];
        parts[0] = 1000000000L;
        for (int day = 0; day < n; day++) {
            long[] then = new long[32];
            for (int bright = 0; bright <= day; bright++) {
                long moved = parts[bright] * chance / 100;
                then[bright + 1] += moved;
                then[bright] += parts[bright] - moved;
            }
            parts = then;
        }
        long sum = 0;
        for (int bright = 0; bright <= n; bright++) {
            int by = bright;
            if (now.words.get(card).stream().allMatch(word -> word.isGone() || word.ink > by)) {
                sum += parts[bright];
            }
        }
        return (int) sum;
    }

    int rescue(int n, int chance) {
        int best = -1;
        for (int card = 0; card < cards(); card++) {
            if (left(card) > 0 && (best < 0 || odds(card, n, chance) < odds(best, n, chance))) {
                best = card;
            }
        }
        return n < 0 || n > 30 || chance < 0 || chance > 100 ? -1 : best;
    }
}
