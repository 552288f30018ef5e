/** Promise 4 on many made texts, against a reader of another kind. */
public final class GrammarTest {
    private static final int TEXTS = 4000;

    public static void main(String[] args) {
        Grammar collections = Grammar.ofCollections();
        Grammar laws = Grammar.ofLaws();
        Grammar readings = Grammar.ofReadings();
        LabelRoom x = new LabelRoom();
        int[] sound = new int[3];
        for (int i = 0; i < TEXTS; i++) {
            Maker maker = new Maker(i);
            String text = maker.collection(8, 6);
            text = maker.oneIn(3) ? maker.blanks(text) : text;
            text = maker.within(maker.oneIn(4) ? text : maker.spoil(text, "stclmpif:;abcdef->0123459 x"));
            sound[0] += same(x, 0, text, Grammar.collectionFault(collections, text));
            text = maker.law();
            text = maker.oneIn(3) ? maker.blanks(text) : text;
            text = maker.within(maker.oneIn(4) ? text : maker.spoil(text, "y:?;iflpkd0123459+-*/=<>!()[]&| "));
            sound[1] += same(x, 1, text, laws.fault("TEXT", text));
            text = maker.words(6);
            text = maker.oneIn(3) ? maker.blanks(text) : text;
            text = maker.oneIn(4) ? text : maker.spoil(text, "abcdefg->0123459; ");
            sound[2] += same(x, 2, text, readings.fault("TEXT", text));
        }
        for (int sort = 0; sort < 3; sort++) {
            Check.due("sound and spoilt texts of sort " + sort, sound[sort] > TEXTS / 20 && sound[sort] < TEXTS, true);
        }
        Check.finish("GrammarTest");
    }

    private static int same(LabelRoom x, int sort, String text, int want) {
        Check.tape(x, text);
        Check.due("fault(" + sort + ") of \"" + text + "\"", x.fault(sort), want);
        return want < 0 ? 1 : 0;
    }
}
