/** Promises 1 to 5 and 22: the tape, faults, and texts that are told. */
public final class TextTest {
    private static final int NONE = LabelRoom.NONE;

    public static void main(String[] args) {
        newObject();
        feeding();
        ending();
        sorts();
        collections();
        numbers();
        things();
        cards();
        laws();
        conditions();
        within();
        readings();
        telling();
        tellingAnew();
        Check.finish("TextTest");
    }

    private static void newObject() {
        LabelRoom x = new LabelRoom();
        for (int what = 0; what <= 13; what++) {
            Check.due("new count(" + what + ")", x.count(what), what == 5 ? NONE : 0);
        }
        Check.due("new count(-1)", x.count(-1), LabelRoom.HIDDEN);
        Check.due("new count(14)", x.count(14), LabelRoom.HIDDEN);
        Check.due("new back()", x.back(), NONE);
        Check.due("NONE", LabelRoom.NONE, -1);
        Check.due("HIDDEN", LabelRoom.HIDDEN, -1000000);
    }

    private static void feeding() {
        LabelRoom x = new LabelRoom();
        Check.due("zeros", x.feed(0, 0, 0, 0, 0), 0);
        // zeros between the bytes are left out, the highest byte comes first
        Check.due("t:;c", x.feed(0x74003a00, 0x003b0000, 0, 0x63, 0), 4);
        Check.due(":a", x.feed(0x3a, 0, 0, 0, 0x61000000), 6);
        Check.due("as one text", x.text(0), 1);
        Check.due("empty then", x.count(4), 0);
        for (int i = 1; i <= 12; i++) {
            Check.due("full " + i, x.feed(-1, 0x20202020, 0x01010101, 0x80808080, 0x7f7f7f7f), 20 * i);
        }
        Check.due("one more", x.feed(0, 0, 1, 0, 0), NONE);
        Check.due("still", x.count(4), 240);
        Check.due("none more", x.feed(0, 0, 0, 0, 0), 240);
        Check.due("end(239)", x.end(239), true);
        Check.due("two more", x.feed(1, 0, 0, 0, 1), NONE);
        Check.due("still 239", x.count(4), 239);
        Check.due("one more now", x.feed(0, 0, 0, 256, 0), 240);
        Check.due("bytes above 127", x.fault(0), 0);
        x.end(237);
        int[] four = {x.feed(-1, 0, 0, 0, 0), x.feed(0, -1, 0, 0, 0), x.feed(0, 0, -1, 0, 0), x.feed(0, 0, 0, -1, 0),
            x.feed(0, 0, 0, 0, -1), x.feed(1, 1, 0, 1, 1), x.count(4), x.feed(0, 1, 1, 1, 0)};
        Check.dueRow("four are too many, wherever they stand", four, NONE, NONE, NONE, NONE, NONE, NONE, 237, 240);
    }

    private static void ending() {
        LabelRoom x = new LabelRoom();
        Check.due("end(0) of none", x.end(0), true);
        Check.due("end(1) of none", x.end(1), false);
        Check.tape(x, "ab>1;");
        Check.due("end(-1)", x.end(-1), false);
        Check.due("end(6)", x.end(6), false);
        Check.due("end(max)", x.end(Integer.MAX_VALUE), false);
        Check.due("kept", x.count(4), 5);
        Check.due("end(5)", x.end(5), true);
        Check.due("faulty", x.fault(2), 4);
        Check.due("end(4)", x.end(4), true);
        Check.due("count", x.count(4), 4);
        Check.due("sound", x.fault(2), NONE);
        Check.due("end(3)", x.end(3), true);
        Check.due("too early", x.fault(2), 3);
        Check.due("end(4) again", x.end(4), false);
    }

    private static void sorts() {
        LabelRoom x = new LabelRoom();
        Check.tape(x, "a");
        int[] none = {-1, 3, Integer.MIN_VALUE, Integer.MAX_VALUE};
        for (int sort : none) {
            Check.due("fault(" + sort + ")", x.fault(sort), -2);
            Check.due("text(" + sort + ")", x.text(sort), NONE);
        }
        Check.due("kept", x.count(4), 1);
    }

    private static void collections() {
        Check.fault(0, "", 0);
        Check.fault(0, "   ", 3);
        Check.fault(0, "t:;c:a", NONE);
        Check.fault(0, "c:a;t:", NONE);
        Check.fault(0, "t:;c:a   ", NONE);
        Check.fault(0, "t:;c:a;", 7);
        Check.fault(0, "t:;c:a; ", 8);
        Check.fault(0, "t:;;c:a", 3);
        Check.fault(0, ";t:;c:a", 0);
        Check.fault(0, "x", 0);
        Check.fault(0, "T:;c:a", 0);
        Check.fault(0, "t:;y:1", 3);
        Check.fault(0, "t:\t;c:a", 2);
        Check.fault(0, "t:", 2);
        Check.fault(0, "c:a", 3);
        Check.fault(0, "s", 1);
        Check.fault(0, "s;t:", 4);
        Check.fault(0, "s;t:;c:a", NONE);
        Check.fault(0, "t:;s;c:a", NONE);
        Check.fault(0, "t:;c:a;s", NONE);
        Check.fault(0, "s;s", 2);
        Check.fault(0, "s;t:;c:a; s", 10);
        Check.fault(0, "s:", 1);
        Check.fault(0, "sl1:", 3);
        Check.fault(0, "  s  l  9  m  99  ;  t  p  9  :  a  b  ;  c  i  9  f  9  t  0  :  a  -  b  >  9  ", NONE);
        Check.fault(0, "t:;c:a;t:;t:;t:;t:;t:;t:;t:", NONE);
        Check.fault(0, "t:;c:a;t:;t:;t:;t:;t:;t:;t:;t:", 28);
        Check.fault(0, "c:a;c:a;c:a;c:a;c:a;c:a;t:", NONE);
        Check.fault(0, "c:a;c:a;c:a;c:a;c:a;c:a;t:; c:a", 28);
    }

    private static void numbers() {
        Check.fault(0, "sl0m0;t:;c:a", NONE);
        Check.fault(0, "sm99l9;t:;c:a", NONE);
        Check.fault(0, "sl09m00;t:;c:a", NONE);
        Check.fault(0, "sl10;t:;c:a", 3);
        Check.fault(0, "sl99", 3);
        Check.fault(0, "sl009", 4);
        Check.fault(0, "sl990", 4);
        Check.fault(0, "sl9900", 4);
        Check.fault(0, "sm100", 4);
        Check.fault(0, "sm1 0", 4);
        Check.fault(0, "sm", 2);
        Check.fault(0, "sm ", 3);
        Check.fault(0, "smm", 2);
        Check.fault(0, "sm;", 2);
        Check.fault(0, "sm-1", 2);
        Check.fault(0, "sl1l1", 3);
        Check.fault(0, "sl1m2l1", 5);
        Check.fault(0, "sp1", 1);
        Check.fault(0, "s1", 1);
        Check.fault(0, "t:;ci0:a", 5);
        Check.fault(0, "t:;ci0 5:a", 5);
        Check.fault(0, "t:;ci00:a", 6);
        Check.fault(0, "t:;ci000:a", 7);
        Check.fault(0, "t:;ci10:a", 6);
        Check.fault(0, "t:;ci05:a", NONE);
        Check.fault(0, "t:;cf0:a", NONE);
        Check.fault(0, "t:;cf10:a", 6);
        Check.fault(0, "t:;ct9:a", 5);
        Check.fault(0, "t:;ct08:a", NONE);
        Check.fault(0, "t:;ct080:a", 7);
    }

    private static void things() {
        Check.fault(0, "t", 1);
        Check.fault(0, "t;", 1);
        Check.fault(0, "ta", 1);
        Check.fault(0, "tp9:abcdef;c:a", NONE);
        Check.fault(0, "tp9:fedcba;c:a", NONE);
        Check.fault(0, "tp09:;c:a", NONE);
        Check.fault(0, "tp99:", 3);
        Check.fault(0, "tp10:", 3);
        Check.fault(0, "tp990:", 4);
        Check.fault(0, "tp1p1:", 3);
        Check.fault(0, "ti1:", 1);
        Check.fault(0, "t:aa", 3);
        Check.fault(0, "t:ab a", 5);
        Check.fault(0, "t:abcdefa", 8);
        Check.fault(0, "t:g", 2);
        Check.fault(0, "t:A", 2);
        Check.fault(0, "t:-a", 2);
        Check.fault(0, "t:a1", 3);
        Check.fault(0, "t:a:", 3);
    }

    private static void cards() {
        Check.fault(0, "t:;c", 4);
        Check.fault(0, "t:;ca", 4);
        Check.fault(0, "t:;c:", 5);
        Check.fault(0, "t:;c: ", 6);
        Check.fault(0, "t:;c:;", 5);
        Check.fault(0, "t:;c:g", 5);
        Check.fault(0, "t:;c:-", 6);
        Check.fault(0, "t:;c:- g", 7);
        Check.fault(0, "t:;c:-1", 6);
        Check.fault(0, "t:;c:--a", 6);
        Check.fault(0, "t:;c:>", 6);
        Check.fault(0, "t:;c:>a", 6);
        Check.fault(0, "t:;c:>12", 7);
        Check.fault(0, "t:;c:>9", NONE);
        Check.fault(0, "t:;c:abcdef", NONE);
        Check.fault(0, "t:;c:aaaaaa", NONE);
        Check.fault(0, "t:;c:a-a>0a-a>0", NONE);
        Check.fault(0, "t:;c:abcdefa", 11);
        Check.fault(0, "t:;c:abcdef -a", 12);
        Check.fault(0, "t:;c:abcdef>", 11);
        Check.fault(0, "t:;c:a:", 6);
        Check.fault(0, "t:;cp1:a", 4);
        Check.fault(0, "t:;ci1i1:a", 6);
        Check.fault(0, "t:;ci1f1t0i1:a", 10);
        Check.fault(0, "t:;cf1t0i1:a", NONE);
        // what lies where is looked at when all has been read
        Check.fault(0, "t:;ct1:a", 8);
        Check.fault(0, "ct1:a;t:;t:", NONE);
        Check.fault(0, "ct2:a;t:;t:", 11);
        Check.fault(0, "ct7:a;t:", 8);
        Check.fault(0, "t:;ct0:a;ct0:a", 14);
        Check.fault(0, "t:;ct0:a;ct0:a;", 15);
        Check.fault(0, "t:;ct0:a;ct0:a;x", 15);
        Check.fault(0, "t:;ct8:a;ct8:a", NONE);
    }

    private static void laws() {
        Check.fault(1, "", 0);
        Check.fault(1, " ", 1);
        Check.fault(1, "x", 0);
        Check.fault(1, "y", 1);
        Check.fault(1, "y1", 1);
        Check.fault(1, "y:", 2);
        Check.fault(1, "y:;", 2);
        Check.fault(1, "y:1", NONE);
        Check.fault(1, " y : 1 ", NONE);
        Check.fault(1, "y:1;", 4);
        Check.fault(1, "y:1;y:2", NONE);
        Check.fault(1, "y:1;;", 4);
        Check.fault(1, "y:1;2", 4);
        Check.fault(1, "y:1y:2", 3);
        Check.fault(1, "y:0", NONE);
        Check.fault(1, "y:0000", NONE);
        Check.fault(1, "y:9999", NONE);
        Check.fault(1, "y:10000", 6);
        Check.fault(1, "y:00000", 6);
        Check.fault(1, "y:12 34", 5);
        Check.fault(1, "y:i+f-l*p/k+d", NONE);
        Check.fault(1, "y:a", 2);
        Check.fault(1, "y:ii", 3);
        Check.fault(1, "y:1i", 3);
        Check.fault(1, "y:i1", 3);
        Check.fault(1, "y:-1", 2);
        Check.fault(1, "y:+1", 2);
        Check.fault(1, "y:1+", 4);
        Check.fault(1, "y:1+*", 4);
        Check.fault(1, "y:1--1", 4);
        Check.fault(1, "y:1/0", NONE);
        Check.fault(1, "y:[1+2]*3", NONE);
        Check.fault(1, "y:[1+2", 6);
        Check.fault(1, "y:[1+2)", 6);
        Check.fault(1, "y:[]", 3);
        Check.fault(1, "y:1]", 3);
        Check.fault(1, "y:[1=2]", 4);
        Check.fault(1, "y:[(1=2)]", 3);
        Check.fault(1, "y:1[2]", 3);
    }

    private static void conditions() {
        Check.fault(1, "y:1=2?3", NONE);
        Check.fault(1, "y:1<2?3", NONE);
        Check.fault(1, "y:1>2?3", NONE);
        Check.fault(1, "y:1=2", 5);
        Check.fault(1, "y:1=", 4);
        Check.fault(1, "y:1==2", 4);
        Check.fault(1, "y:1=2=3", 5);
        Check.fault(1, "y:1=2;", 5);
        Check.fault(1, "y:1=2?", 6);
        Check.fault(1, "y:1=2?3=4", 7);
        Check.fault(1, "y:1=2?3?4", 7);
        Check.fault(1, "y:1?2", 3);
        Check.fault(1, "y:1&2", 3);
        Check.fault(1, "y:1|2", 3);
        Check.fault(1, "y:?1", 2);
        Check.fault(1, "y:1=2&3<4|5>6?7", NONE);
        Check.fault(1, "y:1=2&3?4", 7);
        Check.fault(1, "y:1=2|?", 6);
        Check.fault(1, "y:1=2&&3=4?5", 6);
        Check.fault(1, "y:(1=2)?3", NONE);
        Check.fault(1, "y:(1=2)", 7);
        Check.fault(1, "y:(1=2", 6);
        Check.fault(1, "y:(1)", 4);
        Check.fault(1, "y:(1=2)+1", 7);
        Check.fault(1, "y:(1=2)=1", 7);
        Check.fault(1, "y:(1=2)(", 7);
        Check.fault(1, "y:(1=2]", 6);
        Check.fault(1, "y:((1=2)|3=4)&!(5=6)?7", NONE);
        Check.fault(1, "y:!1=2?3", NONE);
        Check.fault(1, "y:!1", 4);
        Check.fault(1, "y:!1?2", 4);
        Check.fault(1, "y:!?", 3);
        Check.fault(1, "y:1=!2", 4);
        Check.fault(1, "y:1=(2", 4);
        Check.fault(1, "y:1=2&(3=4|5=6)&!!7=8?9;y:[[1]]", NONE);
        Check.fault(1, "y:1;y:2=3?4;y:5=", 16);
    }

    private static void within() {
        Check.fault(1, "y:!!!!!!1=2?3", NONE);
        Check.fault(1, "y:!!!!!!!1=2?3", 8);
        Check.fault(1, "y:((((((1=2))))))?3", NONE);
        Check.fault(1, "y:(((((((1=2", 8);
        Check.fault(1, "y:[[[[[[1]]]]]]", NONE);
        Check.fault(1, "y:[[[[[[[1", 8);
        Check.fault(1, "y:!(![[[1]]]=1)?2", NONE);
        Check.fault(1, "y:!(![[[ [1", 9);
        Check.fault(1, "y:!!!!!![1", 8);
        Check.fault(1, "y:(((1=[[[1]]]+[[[1]]])))&(((1=[[[1]]])))?[[[[[[1]]]]]]", NONE);
        Check.fault(1, "y:!1=1&!1=1&!1=1|!1=1|!1=1&!1=1&!1=1&!1=1?1", NONE);
        Check.fault(1, "y:[1]+[1]*[1]+[1]-[1]-[1]/[1]+[1]", NONE);
        Check.fault(1, "y:1=1?[[[[[[[1", 12);
        Check.fault(1, "y:((((((1=1&!1", 12);
        Check.fault(1, "y:((((((1=1|[1", 12);
        Check.fault(1, "y:(((((1=1|(1=1)&!1=[1]))", 20);
        Check.fault(1, "y:(((((1=1|(1=1)&!1=1)))))?[1+1]", NONE);
    }

    private static void readings() {
        Check.fault(2, "", 0);
        Check.fault(2, " ", 1);
        Check.fault(2, "a", NONE);
        Check.fault(2, " a - b > 9 ", NONE);
        Check.fault(2, "abcdef", NONE);
        Check.fault(2, "abcdefa", 6);
        Check.fault(2, "-a-b-c-d-e-f-", 12);
        Check.fault(2, "g", 0);
        Check.fault(2, "a;", 1);
        Check.fault(2, "-", 1);
        Check.fault(2, "--a", 1);
        Check.fault(2, ">", 1);
        Check.fault(2, ">10", 2);
        Check.fault(2, "1", 0);
        Check.fault(2, "c:a", 1);
    }

    private static void telling() {
        LabelRoom x = new LabelRoom();
        for (int i = 0; i < 4; i++) {
            Check.due("law " + i, Check.tell(x, 1, "y:" + i), i);
            Check.due("reading " + i, Check.tell(x, 2, "a-b>" + i), i);
        }
        Check.due("laws", x.count(2), 4);
        Check.due("readings", x.count(3), 4);
        Check.due("a fifth law", Check.tell(x, 1, "y:4"), NONE);
        Check.due("its bytes are kept", x.count(4), 3);
        Check.due("a fifth reading", Check.tell(x, 2, "a"), NONE);
        Check.due("its byte is kept", x.count(4), 1);
        Check.due("laws still", x.count(2), 4);
        Check.due("readings still", x.count(3), 4);
        Check.due("none holds", x.count(5), NONE);
        for (int i = 0; i < 4; i++) {
            int[] row = {x.reading(i, 0, 0), x.reading(i, 0, 1), x.reading(i, 1, 0), x.reading(i, 1, 1),
                x.reading(i, 2, 0), x.reading(i, 2, 1), x.reading(i, 3, 0), x.reading(i, 0, 2)};
            Check.dueRow("reading " + i, row, 0, 0, 1, 1, 2, i, NONE, NONE);
        }
        int[] wrong = {x.reading(-1, 0, 0), x.reading(4, 0, 0), x.reading(0, -1, 0), x.reading(0, 6, 0),
            x.reading(0, 0, -1), x.reading(0, 0, 3)};
        Check.dueRow("no such readings", wrong, NONE, NONE, NONE, NONE, NONE, NONE);
        Check.due("a collection still", Check.tell(x, 0, "t:;c:a;c:b"), 2);
    }

    /** Another collection: what stays and what goes. */
    private static void tellingAnew() {
        LabelRoom x = Check.room("sl3m7;t:ab;t:b;t:;ct0:a;c:b;c:-a");
        Check.tell(x, 1, "y:1");
        Check.tell(x, 2, "a");
        x.law(0);
        x.cleaner(9);
        x.days(3);
        x.stood(0, 0, true);
        Check.due("image", x.image(), 3);
        x.light(0);
        Check.tape(x, "t:;c:");
        Check.due("a fault", x.text(0), NONE);
        int[] kept = {x.count(0), x.count(1), x.count(6), x.count(10), x.count(13), x.back()};
        Check.dueRow("nothing changed", kept, 3, 3, 3, 1, 4, 3);
        Check.due("text(0)", Check.tell(x, 0, "c i3 f9 t0:a>5;t p4:a"), 1);
        int[] got = new int[14];
        for (int what = 0; what < 14; what++) {
            got[what] = x.count(what);
        }
        Check.dueRow("counts", got, 1, 1, 1, 1, 0, 0, 0, 1, 20, 9, 0, 0, 0, 0);
        Check.due("no image of it", x.back(), NONE);
        Check.due("no act", x.undo(), NONE);
        Check.due("no log", x.log(0, 0), NONE);
        Check.due("the reading is there", x.reading(0, 0, 1), 0);
        int[] card = {x.card(0, 0), x.card(0, 1), x.card(0, 2), x.word(0, 0, 2), x.word(0, 1, 1), x.card(1, 0)};
        Check.dueRow("the card", card, 9, 0, 2, 3, 5, NONE);
        // the usual numbers of all that is not told
        LabelRoom y = Check.room("t:;c:a");
        int[] usual = {y.count(7), y.count(8), y.thing(0, 0), y.card(0, 0), y.card(0, 1), y.word(0, 0, 2)};
        Check.dueRow("usual", usual, 1, 20, 1, 1, NONE, 5);
        LabelRoom z = Check.room("t:;c:a;s m0 l0");
        Check.due("light", z.count(7), 0);
        Check.due("money", z.count(8), 0);
    }
}
