import java.util.NoSuchElementException;

/** All that calls show of a room, as a text: two rooms that show the same are the same to their users. */
final class Sight {
    private static final int THROWN = -99;

    private Sight() {
    }

    static int thing(LabelRoom x, int thing, int what) {
        try {
            return x.thing(thing, what);
        } catch (NoSuchElementException e) {
            return THROWN;
        }
    }

    /** What acts, texts and the like can change. */
    static String state(LabelRoom x) {
        StringBuilder all = new StringBuilder("counts");
        for (int what = 0; what <= 13; what++) {
            all.append(' ').append(x.count(what));
        }
        for (int card = 0; card < x.count(0); card++) {
            all.append(" card ").append(x.card(card, 1));
            for (int place = 0; place < x.card(card, 2); place++) {
                all.append(' ').append(x.word(card, place, 0)).append(',').append(x.word(card, place, 1))
                    .append(',').append(x.word(card, place, 2));
            }
        }
        all.append(" log");
        for (int i = 0; i < Math.min(5, x.count(12)); i++) {
            all.append(' ').append(x.log(i, 0)).append(',').append(x.log(i, 1)).append(',').append(x.log(i, 2));
        }
        return all.toString();
    }

    /** The state and all else that is told without a change. */
    static String all(LabelRoom x) {
        StringBuilder all = new StringBuilder(state(x));
        for (int thing = 0; thing < x.count(1); thing++) {
            all.append(" thing ").append(thing(x, thing, 0)).append(',').append(thing(x, thing, 1)).append(',')
                .append(thing(x, thing, 2)).append(',').append(x.alone(thing)).append(',').append(x.shared(0, thing));
        }
        for (int card = 0; card < x.count(0); card++) {
            all.append(" of ").append(card).append(' ').append(x.card(card, 0)).append(',').append(x.card(card, 3))
                .append(',').append(x.suits(card)).append(',').append(x.blank(card)).append(',')
                .append(x.once(card, -1)).append(',').append(x.once(card, 0)).append(',').append(x.probe(card))
                .append(',').append(x.saves(card, 0)).append(',').append(x.odds(card, 3, 40));
        }
        for (int reading = 0; reading < x.count(3); reading++) {
            for (int place = 0; x.reading(reading, place, 0) != LabelRoom.NONE; place++) {
                all.append(" word ").append(x.reading(reading, place, 0)).append(',')
                    .append(x.reading(reading, place, 1));
            }
        }
        all.append(" bits ").append(x.right()).append(' ').append(x.round()).append(' ').append(x.nowhere()).append(' ')
            .append(x.forged()).append(' ').append(x.perhaps()).append(' ').append(x.clash()).append(' ')
            .append(x.matched(0)).append(' ').append(x.wanted(0)).append(' ').append(x.twins(-1)).append(' ')
            .append(x.rescue(3, 40));
        return all.toString();
    }

    /** What is on the tape, told by the faults of all that it begins with (which empties it). */
    static String tape(LabelRoom x) {
        StringBuilder all = new StringBuilder("tape");
        for (int n = Math.min(20, x.count(4)); n >= 0; n--) {
            all.append(' ').append(x.fault(0)).append(',').append(x.fault(1)).append(',').append(x.fault(2));
            x.end(n);
        }
        return all.toString();
    }

    /** What each act that can be undone had changed (which undoes them). */
    static String acts(LabelRoom x) {
        StringBuilder all = new StringBuilder("acts");
        for (int i = 0; i < 6; i++) {
            all.append(" undo ").append(x.undo()).append(' ').append(state(x));
        }
        return all.toString();
    }

    /** What the image has kept (which the room then is). */
    static String image(LabelRoom x) {
        return "back " + x.back() + " " + state(x);
    }

    /** What laws do, each for a day (which changes the room). */
    static String laws(LabelRoom x) {
        StringBuilder all = new StringBuilder("laws");
        for (int law = LabelRoom.NONE; law < x.count(2); law++) {
            all.append(' ').append(x.law(law)).append(' ').append(x.days(1)).append(' ').append(state(x));
        }
        return all.toString();
    }
}
