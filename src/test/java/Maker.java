import java.util.Random;

/** Makes texts of all sorts, sound ones and spoilt ones, by a seed. */
final class Maker {
    final Random random;

    Maker(long seed) {
        random = new Random(seed);
    }

    int below(int n) {
        return random.nextInt(n);
    }

    boolean oneIn(int n) {
        return below(n) == 0;
    }

    char oneOf(String signs) {
        return signs.charAt(below(signs.length()));
    }

    String words(int cards) {
        StringBuilder text = new StringBuilder();
        int many = 1 + below(oneIn(3) ? 6 : 3);
        for (int i = 0; i < many; i++) {
            int sort = below(5);
            if (sort == 0) {
                text.append('>').append(oneIn(9) ? below(10) : below(cards));
            } else {
                text.append(sort < 3 ? "" : "-").append(oneOf(oneIn(4) ? "abcdef" : "abc"));
            }
        }
        return text.toString();
    }

    String marks() {
        StringBuilder text = new StringBuilder();
        String letters = oneIn(3) ? "abcdef" : "abc";
        for (int i = 0; i < letters.length(); i++) {
            if (oneIn(2)) {
                text.insert(below(text.length() + 1), letters.charAt(i));
            }
        }
        return text.toString();
    }

    String collection(int mostThings, int mostCards) {
        int things = 1 + below(mostThings);
        int cards = 1 + below(mostCards);
        boolean rules = oneIn(2);
        int left = things + cards + (rules ? 1 : 0);
        int taken = 0;
        StringBuilder text = new StringBuilder();
        while (left > 0) {
            text.append(text.length() == 0 ? "" : ";");
            if (rules && oneIn(left)) {
                text.append('s').append(oneIn(2) ? "l" + below(10) : "").append(oneIn(2) ? "m" + below(100) : "");
                rules = false;
            } else if (things > 0 && (cards == 0 || oneIn(2))) {
                text.append('t').append(oneIn(2) ? "p" + below(10) : "").append(':').append(marks());
                things--;
            } else {
                int thing = below(mostThings);
                boolean lies = oneIn(2) && (taken >> thing & 1) == 0;
                taken |= lies ? 1 << thing : 0;
                text.append('c').append(oneIn(2) ? "i" + (1 + below(9)) : "").append(oneIn(2) ? "f" + below(4) : "")
                    .append(lies ? "t" + thing : oneIn(4) ? "t8" : "").append(':').append(words(mostCards));
                cards--;
            }
            left--;
        }
        return text.toString();
    }

    private String atom(int depth) {
        if (depth < 6 && oneIn(5)) {
            return "[" + sum(depth + 1) + "]";
        }
        if (oneIn(2)) {
            return "" + oneOf("iflpkd");
        }
        return "" + below(oneIn(5) ? 10000 : 6);
    }

    String sum(int depth) {
        StringBuilder text = new StringBuilder(atom(depth));
        while (oneIn(3)) {
            text.append(oneOf("+-*/")).append(atom(depth));
        }
        return text.toString();
    }

    private String unit(int depth) {
        if (depth < 6 && oneIn(4)) {
            return oneIn(2) ? "!" + unit(depth + 1) : "(" + condition(depth + 1) + ")";
        }
        return sum(depth) + oneOf("=<>") + sum(depth);
    }

    String condition(int depth) {
        StringBuilder text = new StringBuilder(unit(depth));
        while (oneIn(4)) {
            text.append(oneOf("&|")).append(unit(depth));
        }
        return text.toString();
    }

    String law() {
        StringBuilder text = new StringBuilder();
        do {
            text.append(text.length() == 0 ? "" : ";").append("y:");
            if (!oneIn(3)) {
                text.append(condition(0)).append('?');
            }
            text.append(sum(0));
        } while (oneIn(2));
        return text.toString();
    }

    /** Blanks between signs, but for digits that stand together. */
    String blanks(String text) {
        StringBuilder wide = new StringBuilder();
        for (int i = 0; i < text.length(); i++) {
            boolean within = i > 0 && Character.isDigit(text.charAt(i)) && Character.isDigit(text.charAt(i - 1));
            while (!within && oneIn(6)) {
                wide.append(' ');
            }
            wide.append(text.charAt(i));
        }
        return wide.append(oneIn(5) ? " " : "").toString();
    }

    String spoil(String text, String signs) {
        StringBuilder spoilt = new StringBuilder(text);
        int times = 1 + below(2);
        for (int i = 0; i < times; i++) {
            int at = below(spoilt.length() + 1);
            int way = below(4);
            if (way == 0 || at == spoilt.length()) {
                spoilt.insert(at, oneOf(signs));
            } else if (way == 1) {
                spoilt.deleteCharAt(at);
            } else if (way == 2) {
                spoilt.setCharAt(at, oneOf(signs));
            } else {
                spoilt.setLength(at);
            }
        }
        return spoilt.toString();
    }

    String within(String text) {
        return text.length() <= 240 ? text : text.substring(0, 240);
    }
}
