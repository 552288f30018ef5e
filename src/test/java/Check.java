/** What the tests have in common: asking, telling what is wrong, and feeding texts. */
final class Check {
    private static int asked = 0;
    private static int wrong = 0;
    private static String sentence = "";

    private Check() {
    }

    /** The words of the document that the answers from here on are held against. */
    static void sentence(String words) {
        sentence = "[" + words + "] ";
    }

    static void due(String call, long got, long want) {
        asked++;
        if (got != want) {
            wrong++;
            System.out.println(sentence + call + " answered " + got + ", due is " + want);
        }
    }

    static void due(String call, boolean got, boolean want) {
        due(call, got ? 1 : 0, want ? 1 : 0);
    }

    static void due(String call, String got, String want) {
        asked++;
        if (!got.equals(want)) {
            wrong++;
            System.out.println(sentence + call + " shows " + got + ", due is " + want);
        }
    }

    /** A row of answers that are due one behind the other. */
    static void dueRow(String call, int[] got, int... want) {
        due(call + " (how many)", got.length, want.length);
        for (int i = 0; i < Math.min(got.length, want.length); i++) {
            due(call + " [" + i + "]", got[i], want[i]);
        }
    }

    static int feed(LabelRoom x, String text) {
        int held = x.count(4);
        for (int from = 0; from < text.length(); from += 20) {
            int[] five = new int[5];
            for (int i = 0; i < 20; i++) {
                int sign = from + i < text.length() ? text.charAt(from + i) : 0;
                five[i / 4] = five[i / 4] << 8 | sign & 255;
            }
            held = x.feed(five[0], five[1], five[2], five[3], five[4]);
        }
        return held;
    }

    static void tape(LabelRoom x, String text) {
        x.end(0);
        due("bytes of \"" + text + "\"", feed(x, text), text.length());
    }

    /** Tells a text that has to be without a fault; its answer. */
    static int tell(LabelRoom x, int sort, String text) {
        tape(x, text);
        due("fault(" + sort + ") of \"" + text + "\"", x.fault(sort), LabelRoom.NONE);
        return x.text(sort);
    }

    /** The fault of a text of a sort; a faulty one is refused and stays on the tape. */
    static void fault(int sort, String text, int want) {
        LabelRoom x = new LabelRoom();
        tape(x, text);
        String call = "fault(" + sort + ") of \"" + text + "\"";
        due(call, x.fault(sort), want);
        due(call + " again", x.fault(sort), want);
        due(call + ", bytes kept", x.count(4), text.length());
        due(call + ", text", x.text(sort) == LabelRoom.NONE, want != LabelRoom.NONE);
        due(call + ", bytes behind text", x.count(4), want == LabelRoom.NONE ? 0 : text.length());
        int held = x.count(0) + x.count(2) + x.count(3);
        due(call + ", it is there behind text", held > 0, want == LabelRoom.NONE);
    }

    static LabelRoom room(String text) {
        LabelRoom x = new LabelRoom();
        due("text(0) of \"" + text + "\"", tell(x, 0, text), x.count(0));
        return x;
    }

    static void finish(String name) {
        System.out.println(name + ": " + asked + " answers, " + wrong + " not as due");
        if (wrong != 0) {
            System.exit(1);
        }
    }
}
