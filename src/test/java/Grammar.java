import java.util.ArrayList;
import java.util.HashMap;
import java.util.LinkedHashSet;
import java.util.List;
import java.util.Map;
import java.util.Set;

/**
 * The grammars of the document as rows of rules, and a reader (Earley's) that goes through a text by
 * all rules at once. It shares no code and no way of reading with LabelRoom.
 */
final class Grammar {
    private final Map<String, List<String[]>> rules = new HashMap<>();

    /** Signs of a rule stand between blanks; 'x a sign, @xyz one of these, others are names. */
    private void rule(String name, String... choices) {
        List<String[]> rows = rules.computeIfAbsent(name, key -> new ArrayList<>());
        for (String choice : choices) {
            rows.add(choice.isEmpty() ? new String[0] : choice.split(" "));
        }
    }

    private record State(String name, String[] row, int dot, int from) {
        boolean isDone() {
            return dot == row.length;
        }

        String next() {
            return row[dot];
        }
    }

    /** A state's rows are the same objects always, so that their places tell them apart. */
    private record Key(String name, int row, int dot, int from) {
    }

    private static boolean takes(String symbol, char sign) {
        if (symbol.equals("_")) {
            return sign == ' ';
        }
        return symbol.charAt(0) == '\'' ? symbol.charAt(1) == sign : symbol.indexOf(sign, 1) > 0;
    }

    private static boolean isSign(String symbol) {
        return symbol.equals("_") || symbol.charAt(0) == '\'' || symbol.charAt(0) == '@';
    }

    private void add(Set<Key> keys, List<State> states, State state) {
        List<String[]> rows = rules.get(state.name);
        int row = 0;
        while (rows.get(row) != state.row) {
            row++;
        }
        if (keys.add(new Key(state.name, row, state.dot, state.from))) {
            states.add(state);
        }
    }

    /** The first place at which the text cannot go on; its length if it ends too early; -1. */
    int fault(String start, String text) {
        List<List<State>> sets = new ArrayList<>();
        List<Set<Key>> keys = new ArrayList<>();
        for (int i = 0; i <= text.length() + 1; i++) {
            sets.add(new ArrayList<>());
            keys.add(new LinkedHashSet<>());
        }
        for (String[] row : rules.get(start)) {
            add(keys.get(0), sets.get(0), new State(start, row, 0, 0));
        }
        for (int at = 0; at <= text.length(); at++) {
            close(sets, keys, at);
            if (at == text.length()) {
                break;
            }
            for (State state : sets.get(at)) {
                if (!state.isDone() && isSign(state.next()) && takes(state.next(), text.charAt(at))) {
                    add(keys.get(at + 1), sets.get(at + 1),
                        new State(state.name, state.row, state.dot + 1, state.from));
                }
            }
            if (sets.get(at + 1).isEmpty()) {
                return at;
            }
        }
        for (State state : sets.get(text.length())) {
            if (state.isDone() && state.from == 0 && state.name.equals(start)) {
                return -1;
            }
        }
        return text.length();
    }

    private void close(List<List<State>> sets, List<Set<Key>> keys, int at) {
        List<State> here = sets.get(at);
        // again until nothing comes, as rules without signs end where they begin
        for (int before = -1; before != here.size();) {
            before = here.size();
            for (int i = 0; i < here.size(); i++) {
                State state = here.get(i);
                if (state.isDone()) {
                    List<State> back = sets.get(state.from);
                    for (int j = 0; j < back.size(); j++) {
                        State was = back.get(j);
                        if (!was.isDone() && was.next().equals(state.name)) {
                            add(keys.get(at), here, new State(was.name, was.row, was.dot + 1, was.from));
                        }
                    }
                } else if (!isSign(state.next())) {
                    for (String[] row : rules.get(state.next())) {
                        add(keys.get(at), here, new State(state.next(), row, 0, at));
                    }
                }
            }
        }
    }

    private void common() {
        rule("B", "", "_ B");
        rule("WORD", "@abcdef B", "'- B @abcdef B", "'> B @0123456789 B");
        rule("WORDS6", "");
        for (int had = 5; had >= 0; had--) {
            rule("WORDS" + had, "WORD WORDS" + (had + 1));
            if (had > 0) {
                rule("WORDS" + had, "");
            }
        }
    }

    static Grammar ofReadings() {
        Grammar g = new Grammar();
        g.common();
        g.rule("TEXT", "B WORDS0");
        return g;
    }

    static Grammar ofLaws() {
        Grammar g = new Grammar();
        g.common();
        g.rule("TEXT", "B CLAUSES");
        g.rule("CLAUSES", "CLAUSE", "CLAUSE '; B CLAUSES");
        g.rule("CLAUSE", "'y B ': B SUM0", "'y B ': B COND0 '? B SUM0");
        g.rule("D", "@0123456789");
        for (int in = 0; in <= 6; in++) {
            g.rule("COND" + in, "TRUTH" + in, "TRUTH" + in + " '| B COND" + in);
            g.rule("TRUTH" + in, "UNIT" + in, "UNIT" + in + " '& B TRUTH" + in);
            g.rule("UNIT" + in, "SUM" + in + " @=<> B SUM" + in);
            g.rule("SUM" + in, "TERM" + in, "TERM" + in + " @+- B SUM" + in);
            g.rule("TERM" + in, "ATOM" + in, "ATOM" + in + " @*/ B TERM" + in);
            g.rule("ATOM" + in, "D B", "D D B", "D D D B", "D D D D B", "@iflpkd B");
            if (in < 6) {
                g.rule("UNIT" + in, "'! B UNIT" + (in + 1), "'( B COND" + (in + 1) + " ') B");
                g.rule("ATOM" + in, "'[ B SUM" + (in + 1) + " '] B");
            }
        }
        return g;
    }

    /** Numbers of one or two digits are all taken here; boundsFault looks at them. */
    static Grammar ofCollections() {
        Grammar g = new Grammar();
        g.common();
        g.rule("D", "@0123456789");
        g.rule("NUM", "D B", "D D B");
        g.rule("TEXT", "B CL000");
        for (int s = 0; s <= 1; s++) {
            for (int t = 0; t <= 8; t++) {
                for (int c = 0; c <= 6; c++) {
                    String name = "CL" + s + t + c;
                    g.rule(name);
                    g.rule("MORE" + s + t + c, "", "'; B " + name);
                    if (s < 1) {
                        g.rule(name, "'s B ITEMSlm0 MORE" + (s + 1) + t + c);
                    }
                    if (t < 8) {
                        g.rule(name, "'t B ITEMSp0 ': B MARKS0 MORE" + s + (t + 1) + c);
                    }
                    if (c < 6) {
                        g.rule(name, "'c B ITEMSift0 ': B WORDS0 MORE" + s + t + (c + 1));
                    }
                }
            }
        }
        g.subsets("ITEMSlm", "lm", "B NUM");
        g.subsets("ITEMSp", "p", "B NUM");
        g.subsets("ITEMSift", "ift", "B NUM");
        g.subsets("MARKS", "abcdef", "B");
        return g;
    }

    private void subsets(String name, String letters, String behind) {
        for (int had = 0; had < 1 << letters.length(); had++) {
            rule(name + had, "");
            for (int i = 0; i < letters.length(); i++) {
                if ((had >> i & 1) == 0) {
                    rule(name + had, "'" + letters.charAt(i) + " " + behind + " " + name + (had | 1 << i));
                }
            }
        }
    }

    /** The fault of a collection: by its grammar, by a number out of bounds ahead of that, or as a whole. */
    static int collectionFault(Grammar collections, String text) {
        int bySigns = collections.fault("TEXT", text);
        int known = bySigns < 0 ? text.length() : bySigns;
        char clause = 0;
        int things = 0;
        int cards = 0;
        List<Integer> lying = new ArrayList<>();
        boolean inHead = false;
        boolean fresh = true;
        char letter = 0;
        for (int i = 0; i < known; i++) {
            char sign = text.charAt(i);
            if (sign == ' ') {
                continue;
            }
            if (sign == ';') {
                fresh = true;
            } else if (fresh) {
                clause = sign;
                fresh = false;
                inHead = true;
                things += sign == 't' ? 1 : 0;
                cards += sign == 'c' ? 1 : 0;
            } else if (sign == ':') {
                inHead = false;
            } else if (inHead && Character.isDigit(sign)) {
                int end = i;
                while (end < text.length() && Character.isDigit(text.charAt(end))) {
                    end++;
                }
                if (end - i > 2) {
                    break;
                }
                int value = Integer.parseInt(text.substring(i, end));
                if (value < least(clause, letter) || value > most(clause, letter)) {
                    return end - 1;
                }
                if (clause == 'c' && letter == 't' && value != 8) {
                    lying.add(value);
                }
                i = end - 1;
            } else {
                letter = sign;
            }
        }
        if (bySigns >= 0) {
            return bySigns;
        }
        boolean whole = things > 0 && cards > 0 && lying.stream().distinct().count() == lying.size();
        for (int thing : lying) {
            whole = whole && thing < things;
        }
        return whole ? -1 : text.length();
    }

    private static int least(char clause, char letter) {
        return clause == 'c' && letter == 'i' ? 1 : 0;
    }

    private static int most(char clause, char letter) {
        if (clause == 's') {
            return letter == 'l' ? 9 : 99;
        }
        return clause == 'c' && letter == 't' ? 8 : 9;
    }
}
