import java.util.ArrayList;
import java.util.List;
import java.util.function.Supplier;
import java.util.function.ToIntFunction;

/** Calls that are refused, or only ask, on objects in some state, which they must not change. */
final class Refusals {
    /** A call with its arguments; a boolean counts 1 or 0. */
    interface Call {
        int on(LinkPredictor x, int[] arguments);
    }

    private final Checks checks;
    private final Supplier<LinkPredictor> scene;
    private final List<Integer> before;

    Refusals(Checks checks, Supplier<LinkPredictor> scene) {
        this.checks = checks;
        this.scene = scene;
        this.before = Portrait.of(scene);
    }

    /** The call answers what is due, and all is as it was before. */
    void due(String name, ToIntFunction<LinkPredictor> call, int want) {
        checks.due(name, call.applyAsInt(scene.get()), want);
        unchanged(name, call);
    }

    void unchanged(String name, ToIntFunction<LinkPredictor> call) {
        List<Integer> after = Portrait.of(() -> {
            LinkPredictor x = scene.get();
            call.applyAsInt(x);
            return x;
        });
        checks.yes("nothing is changed by " + name, before.equals(after));
    }

    /** Each argument in turn is a wrong number, all others being as said: refused in every scene, changing nothing. */
    static void everyWrongNumber(Checks checks, String name, Call call, int refused, int[] good, Range... ranges) {
        List<int[]> wrong = wrongArguments(good, ranges);
        for (Supplier<LinkPredictor> scene : Scenes.all()) {
            Refusals refusals = new Refusals(checks, scene);
            for (int[] arguments : wrong) {
                refusals.due(told(name, arguments), x -> call.on(x, arguments), refused);
            }
        }
    }

    /** The same for a call that only asks: so all of these calls can be made on one object. */
    static void everyWrongQuestion(Checks checks, String name, Call call, int refused, int[] good, Range... ranges) {
        List<int[]> wrong = wrongArguments(good, ranges);
        for (Supplier<LinkPredictor> scene : Scenes.all()) {
            LinkPredictor asked = scene.get();
            for (int[] arguments : wrong) {
                checks.due(told(name, arguments), call.on(asked, arguments), refused);
            }
            new Refusals(checks, scene).unchanged(name, x -> {
                wrong.forEach(arguments -> call.on(x, arguments));
                return call.on(x, good);
            });
        }
    }

    private static List<int[]> wrongArguments(int[] good, Range... ranges) {
        List<int[]> list = new ArrayList<>();
        for (int place = 0; place < good.length; place++) {
            for (int number : ranges[place].outside()) {
                int[] arguments = good.clone();
                arguments[place] = number;
                list.add(arguments);
            }
        }
        return list;
    }

    private static String told(String name, int[] arguments) {
        StringBuilder text = new StringBuilder(name);
        for (int place = 0; place < arguments.length; place++) {
            text.append(place == 0 ? "(" : ", ").append(arguments[place]);
        }
        return text.append(")").toString();
    }
}
