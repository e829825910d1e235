import java.util.NoSuchElementException;
import java.util.function.Consumer;
import java.util.function.ObjIntConsumer;
import java.util.function.Supplier;

/** What the tests of the bounds have in common: the sentence that they hold to, and the two ends of a range. */
abstract class Bounds {
    static final Class<IndexOutOfBoundsException> INDEX = IndexOutOfBoundsException.class;
    static final Class<IllegalArgumentException> ARGUMENT = IllegalArgumentException.class;
    static final Class<IllegalStateException> STATE = IllegalStateException.class;
    static final Class<NoSuchElementException> ELEMENT = NoSuchElementException.class;

    private final Sentences sentences;

    Bounds(Sentences sentences) {
        this.sentences = sentences;
    }

    abstract void run();

    final void sentence(int promise, String text) {
        sentences.begin(promise, text);
    }

    final void due(String call, Object got, Object want) {
        Checks.due(sentences.now() + ": " + call, got, want);
    }

    final void refused(String call, Class<? extends RuntimeException> due, Supplier<Assetmerge> world,
            Consumer<Assetmerge> wrongCall) {
        Checks.refused(sentences.now() + ": " + call, due, world, wrongCall);
    }

    final void answered(String call, Supplier<Assetmerge> world, Consumer<Assetmerge> rightCall) {
        Checks.answered(sentences.now() + ": " + call, world, rightCall);
    }

    /** The last values that are allowed are answered, and the first ones that are refused are refused. */
    final void range(String call, int low, int high, Supplier<Assetmerge> world, ObjIntConsumer<Assetmerge> onValue) {
        ends(call, low, high, ARGUMENT, world, onValue);
    }

    /** Kinds and fields. */
    final void threeOf(String call, Supplier<Assetmerge> world, ObjIntConsumer<Assetmerge> onIndex) {
        answered(call + " of 1", world, x -> onIndex.accept(x, 1));
        ends(call, 0, 2, INDEX, world, onIndex);
    }

    final void ends(String call, int low, int high, Class<? extends RuntimeException> due,
            Supplier<Assetmerge> world, ObjIntConsumer<Assetmerge> onValue) {
        answered(call + " of " + low, world, x -> onValue.accept(x, low));
        answered(call + " of " + high, world, x -> onValue.accept(x, high));
        for (int value : new int[] {low - 1, high + 1, Integer.MIN_VALUE, Integer.MAX_VALUE}) {
            refused(call + " of " + value, due, world, x -> onValue.accept(x, value));
        }
    }

    /** The first and the last record of a full joiner are answered, and what is no record of a joiner is refused. */
    final void records(String call, ObjIntConsumer<Assetmerge> onRecord) {
        answered(call + " of the first record", Worlds::brimful, x -> onRecord.accept(x, 0));
        answered(call + " of the last record", Worlds::brimful, x -> onRecord.accept(x, 23));
        noRecords(call, onRecord);
    }

    /** No record: too small, too large, a wrap-around of 32 bits, dropped, and in empty joiners each of them. */
    final void noRecords(String call, ObjIntConsumer<Assetmerge> onRecord) {
        for (int record : new int[] {-1, 24, 32, 55, -32, 256, Integer.MIN_VALUE, Integer.MAX_VALUE}) {
            refused(call + " of " + record + ", full", INDEX, Worlds::brimful, x -> onRecord.accept(x, record));
        }
        for (int record : new int[] {-1, 6, 23, 24, 32}) {
            refused(call + " of " + record, INDEX, Worlds::mixed, x -> onRecord.accept(x, record));
        }
        refused(call + " of 3, dropped", INDEX, Worlds::mixed, x -> onRecord.accept(x, 3));
        for (int record : new int[] {0, 23}) {
            refused(call + " of " + record + ", all dropped", INDEX, Worlds::emptied, x -> onRecord.accept(x, record));
        }
        for (int record : new int[] {-1, 0}) {
            refused(call + " of " + record + ", empty", INDEX, Assetmerge::new, x -> onRecord.accept(x, record));
            refused(call + " of " + record + ", sources alone", INDEX, () -> Worlds.withSources(4),
                    x -> onRecord.accept(x, record));
        }
    }

    /** As above, for sources: the last one of two and of four, and none in an empty joiner. */
    final void noSources(String call, ObjIntConsumer<Assetmerge> onSource) {
        for (int source : new int[] {-1, 2, 3, 32, Integer.MIN_VALUE, Integer.MAX_VALUE}) {
            refused(call + " of " + source + " of 2", INDEX, Worlds::mixed, x -> onSource.accept(x, source));
        }
        for (int source : new int[] {-1, 4, 5}) {
            refused(call + " of " + source + " of 4", INDEX, () -> Worlds.withSources(4),
                    x -> onSource.accept(x, source));
        }
        refused(call + " of 0, empty", INDEX, Assetmerge::new, x -> onSource.accept(x, 0));
    }

    static int[] keys(int strong, int middle, int weak) {
        return Worlds.keys(strong, middle, weak);
    }

    /** Both ways to find things answer these numbers, record by record; -1 for a dropped one. */
    final void thingsDue(String what, Assetmerge x, int... due) {
        int count = 0;
        for (int record = 0; record < due.length; record++) {
            if (due[record] >= 0) {
                due("thing(" + record + "), " + what, x.thing(record), due[record]);
                due("thingByRounds(" + record + "), " + what, x.thingByRounds(record), due[record]);
                count += due[record] == record ? 1 : 0;
            }
        }
        due("things(), " + what, x.things(), count);
    }

    final void nextGhostDue(String what, Assetmerge x, int due) {
        due("nextGhost(), " + what, x.nextGhost(), due);
        due("nextGhostByDays(), " + what, x.nextGhostByDays(), due);
    }

    final void factDue(String what, Assetmerge x, int record, int field, int from, int fact) {
        String call = "(" + record + ", " + field + "), " + what;
        due("fact" + call, x.fact(record, field), fact);
        due("factByPairs" + call, x.factByPairs(record, field), fact);
        due("factFrom" + call, x.factFrom(record, field), from);
    }
}
