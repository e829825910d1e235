import java.util.function.Consumer;
import java.util.function.Supplier;

/** Counts the answers that are as due and tells the others. */
final class Checks {
    private static int right = 0;
    private static int wrong = 0;

    private Checks() {
    }

    static void due(String call, Object got, Object want) {
        if (got.equals(want)) {
            right++;
        } else {
            wrong++;
            System.out.println(call + " answered " + got + ", due is " + want);
        }
    }

    /** The call on the world throws just this exception, and nothing in the world has changed behind it. */
    static void refused(String call, Class<? extends RuntimeException> due, Supplier<Assetmerge> world,
            Consumer<Assetmerge> wrongCall) {
        for (Probe probe : Probe.values()) {
            Assetmerge untouched = world.get();
            Assetmerge touched = world.get();
            due(call, thrownBy(touched, wrongCall), due.getSimpleName());
            due(call + ": " + probe + " behind it", probe.tell(touched), probe.tell(untouched));
        }
    }

    /** The call on the world throws nothing. */
    static void answered(String call, Supplier<Assetmerge> world, Consumer<Assetmerge> rightCall) {
        due(call, thrownBy(world.get(), rightCall), "nothing");
    }

    static int count() {
        return right + wrong;
    }

    private static String thrownBy(Assetmerge world, Consumer<Assetmerge> call) {
        return thrown(() -> call.accept(world));
    }

    static String thrown(Runnable call) {
        try {
            call.run();
            return "nothing";
        } catch (RuntimeException e) {
            return e.getClass().getSimpleName();
        }
    }

    static void end() {
        System.out.println(right + " answers are as due, " + wrong + " are not");
        if (wrong != 0 || right == 0) {
            System.exit(1);
        }
    }
}
