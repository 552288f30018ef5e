import java.lang.reflect.InvocationTargetException;
import java.lang.reflect.Method;
import java.util.Arrays;

/** A LabelRoom and the plain second program side by side: each call goes to both, and both must answer alike. */
final class Both {
    private final LabelRoom room = new LabelRoom();
    private final Model model = new Model();
    private final String name;

    Both(String name) {
        this.name = name;
    }

    /** The answer of the LabelRoom; a boolean counts 1 or 0, what is thrown is told by its class. */
    Object ask(String call, Object... given) {
        Object got = answer(room, call, given);
        Check.due(name + ": " + call + Arrays.toString(given), got.toString(), answer(model, call, given).toString());
        return got;
    }

    private static Object answer(Object of, String call, Object[] given) {
        for (Method method : of.getClass().getDeclaredMethods()) {
            if (method.getName().equals(call) && method.getParameterCount() == given.length) {
                try {
                    method.setAccessible(true);
                    return method.invoke(of, given);
                } catch (InvocationTargetException e) {
                    return e.getCause().getClass().getName();
                } catch (IllegalAccessException e) {
                    throw new IllegalStateException(e);
                }
            }
        }
        throw new IllegalStateException("no such call: " + call);
    }

    int count(int what) {
        return room.count(what);
    }

    int tell(int sort, String text) {
        ask("end", 0);
        for (int from = 0; from < text.length(); from += 20) {
            int[] five = new int[5];
            for (int i = 0; i < 20 && from + i < text.length(); i++) {
                five[i / 4] |= text.charAt(from + i) << 24 - i % 4 * 8;
            }
            ask("feed", five[0], five[1], five[2], five[3], five[4]);
        }
        Check.due(name + ": fault of " + text, (int) ask("fault", sort), LabelRoom.NONE);
        return (int) ask("text", sort);
    }

    /** Every question of every thing, card and word, and of those just outside. */
    void askAll(boolean withMatch) {
        String[] bare = {"right", "clash", "round", "nowhere", "forged", "perhaps"};
        for (String call : bare) {
            ask(call);
        }
        for (int what = -1; what <= 14; what++) {
            ask("count", what);
        }
        for (int card = -1; card <= room.count(0); card++) {
            askCard(card);
        }
        for (int thing = -1; thing <= room.count(1); thing++) {
            ask("alone", thing);
            ask("thing", thing, 0);
            ask("thing", thing, 1);
            ask("thing", thing, 2);
            ask("shared", thing, room.count(1) - 1);
        }
        for (int what = 0; what < 2; what++) {
            ask("wanted", what);
            ask("rescue", 3 + what * 27, 35);
            ask("twins", what - 1);
        }
        for (int what = 0; what < 3 && withMatch; what++) {
            ask("matched", what);
        }
    }

    private void askCard(int card) {
        for (int thing = -1; thing <= room.count(1); thing++) {
            ask("fits", card, thing);
        }
        for (int place = -1; place <= 6; place++) {
            for (int what = 0; what < 3; what++) {
                ask("word", card, place, what);
            }
        }
        for (int what = 0; what < 4; what++) {
            ask("card", card, what);
        }
        ask("suits", card);
        ask("blank", card);
        ask("probe", card);
        ask("saves", card, 0);
        ask("saves", card, 1);
        int rows = (int) ask("once", card, -1);
        ask("once", card, 0);
        ask("once", card, Math.max(0, rows - 1));
        ask("once", card, Math.max(0, rows));
        for (int n = 0; n <= 10; n++) {
            ask("odds", card, n, 50);
        }
        ask("odds", card, 30, 100);
    }
}
