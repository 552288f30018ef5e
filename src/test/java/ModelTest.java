import java.util.NoSuchElementException;

/** Made runs of all calls, each answer held against the one of the plain second program. */
public final class ModelTest {
    private static final int RUNS = 250;
    private static final int CALLS = 260;

    private final LabelRoom room = new LabelRoom();
    private final Model model = new Model();
    private final Maker maker;
    private final String name;

    private ModelTest(int seed) {
        maker = new Maker(seed);
        name = "run " + seed + ", call ";
    }

    public static void main(String[] args) {
        int runs = args.length > 0 ? Integer.parseInt(args[0]) : RUNS;
        for (int seed = 1; seed <= runs; seed++) {
            ModelTest test = new ModelTest(seed);
            for (int call = 0; call < CALLS; call++) {
                test.call(call);
            }
            test.all();
        }
        Check.finish("ModelTest");
    }

    private void same(String call, long got, long want) {
        Check.due(name + call, got, want);
    }

    private void same(String call, boolean got, boolean want) {
        Check.due(name + call, got, want);
    }

    private void tape(String text) {
        int rest = maker.oneIn(9) ? maker.below(12) : 0;
        same("end(" + rest + ")", room.end(rest), model.end(rest));
        for (int from = 0; from < text.length(); from += 20) {
            int[] five = new int[5];
            for (int i = 0; i < 20 && from + i < text.length(); i++) {
                five[i / 4] |= text.charAt(from + i) << 24 - i % 4 * 8;
            }
            same("feed", room.feed(five[0], five[1], five[2], five[3], five[4]),
                model.feed(five[0], five[1], five[2], five[3], five[4]));
        }
    }

    private void tell() {
        int sort = maker.below(10) < 3 ? 0 : 1 + maker.below(2);
        boolean large = maker.oneIn(20);
        String text = sort == 0 ? maker.collection(large ? 8 : 5, large ? 6 : 4) : sort == 1 ? maker.law() : maker.words(4);
        text = maker.oneIn(4) ? maker.blanks(text) : text;
        text = maker.oneIn(6) ? maker.spoil(text, "stcpif:;abc->0123y?+=! ") : text;
        tape(text);
        int told = maker.oneIn(20) ? maker.below(6) - 1 : sort;
        same("fault(" + told + ") of " + text, room.fault(told), model.fault(told));
        same("text(" + told + ") of " + text, room.text(told), model.text(told));
    }

    private int card() {
        return maker.oneIn(12) ? maker.below(9) - 1 : maker.below(Math.max(1, room.count(0)));
    }

    private int thing() {
        return maker.oneIn(12) ? maker.below(11) - 1 : maker.below(Math.max(1, room.count(1)));
    }

    private void call(int number) {
        int which = number < 2 ? 0 : maker.below(number < 20 ? 40 : 44);
        if (which == 0) {
            tell();
        } else if (which < 22) {
            act(which);
        } else {
            ask(which);
        }
    }

    private void act(int which) {
        int card = card();
        int thing = thing();
        int few = maker.below(6) - 1;
        long seed = maker.random.nextLong();
        int days = maker.oneIn(9) ? maker.below(64) - 2 : 1 + maker.below(3);
        switch (which) {
            case 1:
            case 2:
                same("put(" + thing + ", " + card + ")", room.put(thing, card), model.put(thing, card));
                break;
            case 3:
            case 4:
                same("take(" + card + ")", room.take(card), model.take(card));
                break;
            case 5:
                same("copy(" + card + ")", room.copy(card), model.copy(card));
                break;
            case 6:
                same("lamp(" + card + ")", room.lamp(card), model.lamp(card));
                break;
            case 7:
                int light = maker.below(12) - 1;
                same("light(" + light + ")", room.light(light), model.light(light));
                break;
            case 8:
            case 9:
                same("write(" + card + ", " + few + ")", room.write(card, few), model.write(card, few));
                break;
            case 10:
            case 11:
            case 12:
                same("days(" + days + ")", room.days(days), model.days(days));
                break;
            case 13:
            case 14:
                same("decades(" + days + ", " + seed + ")", room.decades(days, seed), model.decades(days, seed));
                break;
            case 15:
            case 16:
                same("undo()", room.undo(), model.undo());
                break;
            case 17:
                same("image()", room.image(), model.image());
                break;
            case 18:
                same("back()", room.back(), model.back());
                break;
            case 19:
                same("law(" + few + ")", room.law(few), model.law(few));
                break;
            case 20:
                int v = maker.oneIn(4) ? maker.below(103) - 1 : 50 + maker.below(50);
                same("cleaner(" + v + ")", room.cleaner(v), model.cleaner(v));
                break;
            default:
                boolean fitted = maker.oneIn(2);
                same("stood(" + thing + ", " + card + ", " + fitted + ")", room.stood(thing, card, fitted),
                    model.stood(thing, card, fitted));
                break;
        }
    }

    private void ask(int which) {
        int card = card();
        int thing = thing();
        int what = maker.below(5) - 1;
        int n = maker.below(34) - 1;
        int chance = maker.below(103) - 1;
        int i = maker.oneIn(2) ? -1 : maker.below(maker.oneIn(2) ? 8 : 800) - 2;
        switch (which) {
            case 22:
                sameThing(thing, what);
                break;
            case 23:
                same("card(" + card + ", " + what + ")", room.card(card, what), model.card(card, what));
                break;
            case 24:
                int place = maker.below(8) - 1;
                same("word", room.word(card, place, what), model.word(card, place, what));
                same("reading", room.reading(what, place, card), model.reading(what, place, card));
                break;
            case 25:
                same("fits(" + card + ", " + thing + ")", room.fits(card, thing), model.fits(card, thing));
                break;
            case 26:
                int day = maker.below(64) - 2;
                same("log(" + day + ", " + what + ")", room.log(day, what), model.log(day, what));
                break;
            case 27:
                same("matched(" + what + ")", room.matched(what), model.matched(what));
                break;
            case 28:
                same("clash()", room.clash(), model.clash());
                break;
            case 29:
                same("blank(" + card + ")", room.blank(card), model.blank(card));
                break;
            case 30:
            case 31:
                same("once(" + card + ", " + i + ")", room.once(card, i), model.once(card, i));
                break;
            case 32:
                same("probe(" + card + ")", room.probe(card), model.probe(card));
                break;
            case 33:
                same("saves(" + card + ", " + what + ")", room.saves(card, what), model.saves(card, what));
                break;
            case 34:
                same("alone(" + thing + ")", room.alone(thing), model.alone(thing));
                break;
            case 35:
                same("suits(" + card + ")", room.suits(card), model.suits(card));
                break;
            case 36:
                same("wanted(" + what + ")", room.wanted(what), model.wanted(what));
                break;
            case 37:
                int other = thing();
                same("shared(" + thing + ", " + other + ")", room.shared(thing, other), model.shared(thing, other));
                break;
            case 38:
                same("twins(" + i + ")", room.twins(i), model.twins(i));
                break;
            case 39:
                same("odds(" + card + ", " + n + ", " + chance + ")", room.odds(card, n, chance),
                    model.odds(card, n, chance));
                break;
            case 40:
                same("rescue(" + n + ", " + chance + ")", room.rescue(n, chance), model.rescue(n, chance));
                break;
            default:
                bitsAndCounts();
                break;
        }
    }

    private void sameThing(int thing, int what) {
        int got;
        int want;
        try {
            got = room.thing(thing, what);
        } catch (NoSuchElementException e) {
            got = -99;
        }
        try {
            want = model.thing(thing, what);
        } catch (NoSuchElementException e) {
            want = -99;
        }
        same("thing(" + thing + ", " + what + ")", got, want);
    }

    private void bitsAndCounts() {
        same("right()", room.right(), model.right());
        same("round()", room.round(), model.round());
        same("nowhere()", room.nowhere(), model.nowhere());
        same("forged()", room.forged(), model.forged());
        same("perhaps()", room.perhaps(), model.perhaps());
        for (int what = -1; what < 15; what++) {
            same("count(" + what + ")", room.count(what), model.count(what));
        }
    }

    /** All that can be seen, at the end of a run. */
    private void all() {
        bitsAndCounts();
        for (int card = 0; card < room.count(0); card++) {
            for (int place = 0; place < 7; place++) {
                for (int what = 0; what < 4; what++) {
                    same("word at last", room.word(card, place, what), model.word(card, place, what));
                    same("card at last", room.card(card, what), model.card(card, what));
                }
            }
        }
        for (int i = 0; i <= 60; i++) {
            for (int what = 0; what < 3; what++) {
                same("log at last", room.log(i, what), model.log(i, what));
            }
        }
    }
}
