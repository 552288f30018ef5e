import java.lang.reflect.Field;
import java.lang.reflect.Member;
import java.lang.reflect.Method;
import java.lang.reflect.Modifier;
import java.util.Arrays;
import java.util.NoSuchElementException;
import java.util.Set;
import java.util.TreeSet;
import java.util.stream.Collectors;

/** The public face as the document has it, and calls with any arguments. */
public final class FaceTest {
    private static final String FACE = "int feed(int,int,int,int,int); boolean end(int); int fault(int); int text(int);"
        + "int thing(int,int); int card(int,int); int word(int,int,int); boolean law(int); boolean cleaner(int);"
        + "int fits(int,int); int put(int,int); int take(int); int copy(int); int lamp(int); boolean light(int);"
        + "int write(int,int); int days(int); int decades(int,long); int undo(); int log(int,int);"
        + "int reading(int,int,int); int right(); int matched(int); int clash(); int blank(int);"
        + "int stood(int,int,boolean); int once(int,int); int probe(int); int saves(int,int); int round();"
        + "int nowhere(); int forged(); int alone(int); int suits(int); int wanted(int); int perhaps();"
        + "int shared(int,int); int twins(int); int odds(int,int,int); int rescue(int,int); int image(); int back();"
        + "int count(int)";

    public static void main(String[] args) {
        face();
        members(LabelRoom.class, true);
        for (Class<?> inside : LabelRoom.class.getDeclaredClasses()) {
            Check.due(inside + " is private and static", Modifier.isPrivate(inside.getModifiers())
                && Modifier.isStatic(inside.getModifiers()), true);
            members(inside, false);
        }
        Check.due("classes", LabelRoom.class.getDeclaredClasses().length < 13, true);
        anyArguments();
        Check.finish("FaceTest");
    }

    private static void face() {
        Set<String> want = Arrays.stream(FACE.split(";")).map(String::trim).collect(Collectors.toCollection(TreeSet::new));
        Set<String> got = new TreeSet<>();
        for (Method method : LabelRoom.class.getDeclaredMethods()) {
            if (!Modifier.isPrivate(method.getModifiers())) {
                Check.due(method + " is public", Modifier.isPublic(method.getModifiers()), true);
                String row = Arrays.stream(method.getParameterTypes()).map(Class::getName)
                    .collect(Collectors.joining(","));
                got.add(method.getReturnType().getName() + " " + method.getName() + "(" + row + ")");
            }
        }
        Check.due("the methods " + got + " are " + want, got.equals(want), true);
        for (Method method : LabelRoom.class.getDeclaredMethods()) {
            String thrown = Arrays.toString(method.getExceptionTypes());
            Check.due(method.getName() + " throws", thrown, method.getName().equals("thing")
                ? "[class java.util.NoSuchElementException]" : "[]");
        }
        Check.due("final", Modifier.isFinal(LabelRoom.class.getModifiers()), true);
        Check.due("one constructor", LabelRoom.class.getConstructors().length, 1);
        Check.due("two constants", LabelRoom.class.getFields().length, 2);
    }

    private static void members(Class<?> one, boolean isFace) {
        Set<String> names = Arrays.stream(LabelRoom.class.getMethods()).map(Member::getName).collect(Collectors.toSet());
        for (Method method : one.getDeclaredMethods()) {
            if (!isFace || Modifier.isPrivate(method.getModifiers())) {
                Check.due(method + " has a name of its own", names.contains(method.getName()), false);
            }
            Check.due(method + " has seven parameters at most", method.getParameterCount() <= 7, true);
        }
        int held = 0;
        for (Field field : one.getDeclaredFields()) {
            boolean constant = Modifier.isStatic(field.getModifiers());
            held += constant ? 0 : 1;
            Check.due(field + " is final if it is static", !constant || Modifier.isFinal(field.getModifiers()), true);
            Check.due(field + " is private", !isFace || Modifier.isPrivate(field.getModifiers())
                || constant && Modifier.isPublic(field.getModifiers()), true);
        }
        Check.due(one + " has some twenty fields", held <= 20, true);
    }

    /** Numbers from everywhere, in a room of each kind: nothing but what the document names is thrown. */
    private static void anyArguments() {
        int[] some = {Integer.MIN_VALUE, -1000000, -2, -1, 0, 1, 2, 3, 5, 6, 7, 8, 9, 31, 60, 61, 100, 240, 1000000,
            Integer.MAX_VALUE};
        String[] texts = {"", "t:;c:a", "t:ab;t:b;ct0:a>1;ci1:>0;c:-a-b-c-d"};
        for (String text : texts) {
            for (int a : some) {
                for (int b : some) {
                    LabelRoom x = new LabelRoom();
                    if (!text.isEmpty()) {
                        Check.tell(x, 0, text);
                    }
                    Check.tell(x, 1, "y:p>0?i;y:f*l");
                    Check.tell(x, 2, "a>7");
                    ask(x, a, b);
                    Check.due("still there", x.count(0), text.isEmpty() ? 0 : text.split("c[it:]").length - 1);
                }
            }
        }
    }

    private static void ask(LabelRoom x, int a, int b) {
        try {
            x.thing(a, b);
        } catch (NoSuchElementException e) {
            Check.due("thrown for a wrong one", a < 0 || a >= x.count(1) || b < 0 || b > 2, true);
        }
        x.card(a, b);
        x.word(a, b, 0);
        x.word(0, a, b);
        x.fits(a, b);
        x.put(a, b);
        x.copy(a);
        x.lamp(a);
        x.light(b);
        x.law(a);
        x.cleaner(b);
        x.days(a);
        x.stood(a, b, a > b);
        x.decades(b, a);
        x.once(a, b);
        x.probe(a);
        x.saves(a, b);
        x.take(a);
        x.write(a, b);
        x.log(a, b);
        x.reading(a, b, 0);
        x.reading(0, a, b);
        x.right();
        x.matched(a);
        x.clash();
        x.blank(a);
        x.round();
        x.nowhere();
        x.forged();
        x.alone(a);
        x.suits(a);
        x.wanted(a);
        x.perhaps();
        x.shared(a, b);
        x.twins(a);
        x.odds(a, b, 50);
        x.odds(0, a, b);
        x.rescue(a, b);
        x.image();
        x.undo();
        x.back();
        x.end(a);
        x.fault(b);
        x.text(b);
        x.feed(a, b, a, b, a);
        x.count(a);
    }
}
