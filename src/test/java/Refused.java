import java.util.List;
import java.util.function.Consumer;
import java.util.function.Predicate;
import java.util.function.ToIntFunction;

/** A refused call: its answer, and that a busy player is behind it as if it had not been made. */
final class Refused {
    private static final Consumer<ModulePlayer> NOTHING = x -> { };
    private static final List<String> UNTOUCHED = Busy.answers(NOTHING);

    private Refused() { }

    static void none(String call, ToIntFunction<ModulePlayer> refused) {
        none(call, NOTHING, refused);
    }

    /** The busy player is told something ahead of the call. */
    static void none(String call, Consumer<ModulePlayer> ahead, ToIntFunction<ModulePlayer> refused) {
        unchanged(call, ahead, refused, -1);
        sameFault(call, ahead, refused);
    }

    static void no(String call, Predicate<ModulePlayer> refused) {
        no(call, NOTHING, refused);
    }

    static void no(String call, Consumer<ModulePlayer> ahead, Predicate<ModulePlayer> refused) {
        unchanged(call, ahead, x -> refused.test(x) ? 1 : 0, 0);
        sameFault(call, ahead, x -> refused.test(x) ? 1 : 0);
    }

    /** A tape that load() refuses: its fault and place; all else stays. */
    static void load(String tape, Consumer<ModulePlayer> ahead, int fault, int place) {
        unchanged("load() of " + tape, ahead, x -> x.load(), -1);
        ModulePlayer x = Busy.player();
        ahead.accept(x);
        x.load();
        Due.is("fault(0) of " + tape, x.fault(0), fault);
        Due.is("fault(1) of " + tape, x.fault(1), place);
    }

    private static void unchanged(String call, Consumer<ModulePlayer> ahead,
            ToIntFunction<ModulePlayer> refused, int due) {
        ModulePlayer asked = Busy.player();
        ahead.accept(asked);
        Due.is(call, refused.applyAsInt(asked), due);
        List<String> before = ahead == NOTHING ? UNTOUCHED : Busy.answers(ahead);
        List<String> behind = Busy.answers(x -> {
            ahead.accept(x);
            refused.applyAsInt(x);
        });
        for (int i = 0; i < before.size(); i++) {
            if (!before.get(i).equals(behind.get(i))) {
                Due.no("behind the refused " + call + " " + behind.get(i) + ", ahead " + before.get(i), true);
                return;
            }
        }
    }

    private static void sameFault(String call, Consumer<ModulePlayer> ahead, ToIntFunction<ModulePlayer> refused) {
        ModulePlayer x = Busy.player();
        ahead.accept(x);
        int fault = x.fault(0);
        int place = x.fault(1);
        refused.applyAsInt(x);
        Due.is("fault(0) behind the refused " + call, x.fault(0), fault);
        Due.is("fault(1) behind the refused " + call, x.fault(1), place);
    }
}
