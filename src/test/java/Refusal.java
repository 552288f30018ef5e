import java.util.function.Supplier;
import java.util.function.ToLongFunction;

/** "What is refused answers as told and changes nothing": a room that refused a call against one without it. */
final class Refusal {
    private final String name;
    private final Supplier<LabelRoom> made;

    Refusal(String name, Supplier<LabelRoom> made) {
        this.name = name;
        this.made = made;
    }

    void none(String call, ToLongFunction<LabelRoom> asked) {
        answers(call, asked, LabelRoom.NONE);
    }

    void isFalse(String call, java.util.function.Predicate<LabelRoom> asked) {
        answers(call, x -> asked.test(x) ? 1 : 0, 0);
    }

    void answers(String call, ToLongFunction<LabelRoom> asked, long want) {
        String where = name + ": " + call;
        Check.due(where, asked.applyAsLong(made.get()), want);
        Check.due(where + ", all", Sight.all(refused(asked)), Sight.all(made.get()));
        Check.due(where + ", tape", Sight.tape(refused(asked)), Sight.tape(made.get()));
        Check.due(where + ", acts", Sight.acts(refused(asked)), Sight.acts(made.get()));
        Check.due(where + ", image", Sight.image(refused(asked)), Sight.image(made.get()));
        Check.due(where + ", laws", Sight.laws(refused(asked)), Sight.laws(made.get()));
    }

    private LabelRoom refused(ToLongFunction<LabelRoom> asked) {
        LabelRoom x = made.get();
        asked.applyAsLong(x);
        return x;
    }
}
