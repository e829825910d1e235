import java.util.function.Consumer;
import java.util.function.Supplier;

/** The two sentences on exceptions, for every call that throws one. */
final class ExceptionBounds extends Bounds {
    ExceptionBounds(Sentences sentences) {
        super(sentences);
    }

    @Override
    void run() {
        sentence(Sentences.AHEAD, "A method that throws an exception changes nothing.");
        nothingChangedBehindIndex();
        nothingChangedBehindIndexOfThings();
        nothingChangedBehindArgument();
        nothingChangedBehindStateAndElement();
        refusedBetweenOthers();
        sentence(Sentences.AHEAD, "If several exceptions apply, the one that is listed first is thrown.");
        sourcesAndRecords();
        pairs();
        thingsAndFacts();
    }

    private void index(String call, Consumer<Assetmerge> wrongCall) {
        refused(call, INDEX, Worlds::mixed, wrongCall);
    }

    private void nothingChangedBehindIndex() {
        index("setTrust(2, 9)", x -> x.setTrust(2, 9));
        index("addRecord(2, 1, 10, 20)", x -> x.addRecord(2, 1, 10, 20));
        index("setKey(3, 0, 9)", x -> x.setKey(3, 0, 9));
        index("setKey(0, 3, 9)", x -> x.setKey(0, 3, 9));
        index("setFact(3, 0, 9)", x -> x.setFact(3, 0, 9));
        index("setFact(0, 3, 9)", x -> x.setFact(0, 3, 9));
        index("see(3)", x -> x.see(3));
        index("drop(3)", x -> x.drop(3));
        index("drop(6)", x -> x.drop(6));
        index("forbid(3, 4)", x -> x.forbid(3, 4));
        index("forbid(4, 6)", x -> x.forbid(4, 6));
        index("allow(1, 3)", x -> x.allow(1, 3));
        index("allow(3, 1)", x -> x.allow(3, 1));
        index("key(3, 0)", x -> x.key(3, 0));
        index("seen(3)", x -> x.seen(3));
    }

    private void nothingChangedBehindIndexOfThings() {
        index("thing(3)", x -> x.thing(3));
        index("thingByRounds(3)", x -> x.thingByRounds(3));
        index("size(3)", x -> x.size(3));
        index("member(3, 0)", x -> x.member(3, 0));
        index("areTogether(0, 3)", x -> x.areTogether(0, 3));
        index("step(0, 3)", x -> x.step(0, 3));
        index("shared(3)", x -> x.shared(3));
        index("thingsWithout(3)", x -> x.thingsWithout(3));
        index("thingsIf(3, 0, 1)", x -> x.thingsIf(3, 0, 1));
        index("thingsIfAllowed(3, 1)", x -> x.thingsIfAllowed(3, 1));
        index("thingsIfAllowed(1, 3)", x -> x.thingsIfAllowed(1, 3));
        index("weight(3)", x -> x.weight(3));
        index("fact(3, 2)", x -> x.fact(3, 2));
        index("factByPairs(3, 2)", x -> x.factByPairs(3, 2));
        index("factFrom(3, 2)", x -> x.factFrom(3, 2));
        index("agreement(3, 2)", x -> x.agreement(3, 2));
        index("isGhost(3)", x -> x.isGhost(3));
    }

    private void nothingChangedBehindArgument() {
        refused("addSource(10)", ARGUMENT, Worlds::mixed, x -> x.addSource(10));
        refused("setTrust(0, 0)", ARGUMENT, Worlds::mixed, x -> x.setTrust(0, 0));
        refused("addRecord(0, 1, 10, 100)", ARGUMENT, Worlds::mixed, x -> x.addRecord(0, 1, 10, 100));
        refused("setKey(0, 0, 100)", ARGUMENT, Worlds::mixed, x -> x.setKey(0, 0, 100));
        refused("setFact(0, 0, 1000)", ARGUMENT, Worlds::mixed, x -> x.setFact(0, 0, 1000));
        refused("forbid(4, 4)", ARGUMENT, Worlds::mixed, x -> x.forbid(4, 4));
        refused("step(4, 4)", ARGUMENT, Worlds::mixed, x -> x.step(4, 4));
        refused("thingsIf(0, 0, 100)", ARGUMENT, Worlds::mixed, x -> x.thingsIf(0, 0, 100));
        refused("setLimit(100)", ARGUMENT, Worlds::mixed, x -> x.setLimit(100));
        refused("pass(100)", ARGUMENT, Worlds::mixed, x -> x.pass(100));
        refused("pass(2), behind the last day", ARGUMENT, () -> Worlds.onDay(998), x -> x.pass(2));
    }

    private void nothingChangedBehindStateAndElement() {
        refused("addSource(9), full", STATE, Worlds::brimful, x -> x.addSource(9));
        refused("addRecord(0, 99, 5, 5), full", STATE, Worlds::brimful, x -> x.addRecord(0, 99, 5, 5));
        refused("forbid(2, 0), forbidden", STATE, Worlds::mixed, x -> x.forbid(2, 0));
        refused("forbid(0, 23), full", STATE, Worlds::overfull, x -> x.forbid(0, 23));
        refused("allow(0, 1)", ELEMENT, Worlds::mixed, x -> x.allow(0, 1));
        refused("member(0, 2)", ELEMENT, Worlds::mixed, x -> x.member(0, 2));
        refused("step(0, 2)", ELEMENT, Worlds::mixed, x -> x.step(0, 2));
        refused("thingsIfAllowed(0, 1)", ELEMENT, Worlds::mixed, x -> x.thingsIfAllowed(0, 1));
        refused("fact(0, 2)", ELEMENT, Worlds::mixed, x -> x.fact(0, 2));
        refused("factByPairs(0, 2)", ELEMENT, Worlds::mixed, x -> x.factByPairs(0, 2));
        refused("factFrom(0, 2)", ELEMENT, Worlds::mixed, x -> x.factFrom(0, 2));
        refused("agreement(0, 2)", ELEMENT, Worlds::mixed, x -> x.agreement(0, 2));
    }

    private void refusedBetweenOthers() {
        Assetmerge x = Worlds.withSources(1);
        for (int i = 0; i < 24; i++) {
            due("addRecord(1, ..) ahead of " + i, Checks.thrown(() -> x.addRecord(1, 1, 1, 1)), INDEX.getSimpleName());
            due("addRecord(0, 100, ..) ahead of " + i, Checks.thrown(() -> x.addRecord(0, 100, 1, 1)),
                    ARGUMENT.getSimpleName());
            due("addRecord behind refused ones", x.addRecord(0, i, -1, -1), i);
        }
        for (int i = 1; i <= 12; i++) {
            due("forbid(0, 0)", Checks.thrown(() -> x.forbid(0, 0)), ARGUMENT.getSimpleName());
            due("forbid(0, 24)", Checks.thrown(() -> x.forbid(0, 24)), INDEX.getSimpleName());
            due("forbid(0, " + i + ") behind refused ones", x.forbid(0, i), i);
            int other = i;
            due("forbid(" + i + ", 0) again", Checks.thrown(() -> x.forbid(other, 0)), STATE.getSimpleName());
        }
        due("forbid(0, 13), the 13th pair", Checks.thrown(() -> x.forbid(0, 13)), STATE.getSimpleName());
        due("allow(0, 12) behind refused ones", x.allow(0, 12), 11);
    }

    private void sourcesAndRecords() {
        for (int trust : new int[] {0, 10}) {
            refused("addSource(" + trust + "), 4 sources", ARGUMENT, Worlds::brimful, x -> x.addSource(trust));
            refused("setTrust(4, " + trust + ")", INDEX, Worlds::brimful, x -> x.setTrust(4, trust));
            refused("setTrust(-1, " + trust + ")", INDEX, Worlds::brimful, x -> x.setTrust(-1, trust));
            refused("setTrust(0, " + trust + "), empty", INDEX, Assetmerge::new, x -> x.setTrust(0, trust));
        }
        for (int key : new int[] {-2, 100}) {
            for (int source : new int[] {-1, 4}) {
                String call = "addRecord(" + source + ", " + key + ", ..)";
                refused(call + ", 24 records", INDEX, Worlds::brimful, x -> x.addRecord(source, key, 1, 1));
                refused(call, INDEX, () -> Worlds.withSources(4), x -> x.addRecord(source, 1, key, 1));
            }
            refused("addRecord(0, 1, 1, " + key + "), empty", INDEX, Assetmerge::new, x -> x.addRecord(0, 1, 1, key));
            refused("addRecord(0, " + key + ", 1, 1), 24", ARGUMENT, Worlds::brimful, x -> x.addRecord(0, key, 1, 1));
            refused("addRecord(0, 1, " + key + ", 1), 24", ARGUMENT, Worlds::brimful, x -> x.addRecord(0, 1, key, 1));
            refused("addRecord(0, 1, 1, " + key + "), 24", ARGUMENT, Worlds::brimful, x -> x.addRecord(0, 1, 1, key));
            noRecords("setKey(.., 0, " + key + ")", (x, record) -> x.setKey(record, 0, key));
            noRecords("thingsIf(.., 0, " + key + ")", (x, record) -> x.thingsIf(record, 0, key));
            noKinds("setKey(0, .., " + key + ")", kind -> x -> x.setKey(0, kind, key));
            noKinds("thingsIf(0, .., " + key + ")", kind -> x -> x.thingsIf(0, kind, key));
        }
        refused("addRecord(4, 1, 1, 1), 24 records", INDEX, Worlds::brimful, x -> x.addRecord(4, 1, 1, 1));
        for (int fact : new int[] {-2, 1000}) {
            noRecords("setFact(.., 0, " + fact + ")", (x, record) -> x.setFact(record, 0, fact));
            noKinds("setFact(0, .., " + fact + ")", field -> x -> x.setFact(0, field, fact));
        }
    }

    private interface OnKind {
        Consumer<Assetmerge> call(int kind);
    }

    private void noKinds(String call, OnKind onKind) {
        for (int kind : new int[] {-1, 3}) {
            refused(call + " of " + kind, INDEX, Worlds::mixed, onKind.call(kind));
        }
    }

    private void pairs() {
        noRecords("forbid, both the same", (x, record) -> x.forbid(record, record));
        noRecords("step, both the same", (x, record) -> x.step(record, record));
        noRecords("allow, both the same", (x, record) -> x.allow(record, record));
        noRecords("thingsIfAllowed, both the same", (x, record) -> x.thingsIfAllowed(record, record));
        index("forbid(1, 3), forbidden", x -> x.forbid(1, 3));
        index("forbid(3, 1), forbidden", x -> x.forbid(3, 1));
        refused("forbid(24, 0), 12 pairs", INDEX, Worlds::overfull, x -> x.forbid(24, 0));
        refused("forbid(0, 24), 12 pairs", INDEX, Worlds::overfull, x -> x.forbid(0, 24));
        refused("forbid(-1, -1), 12 pairs", INDEX, Worlds::overfull, x -> x.forbid(-1, -1));
        refused("forbid(0, 12), 12 pairs, dropped", INDEX, Worlds::parted, x -> x.forbid(0, 12));
        refused("forbid(0, 0), 12 pairs", ARGUMENT, Worlds::overfull, x -> x.forbid(0, 0));
        refused("forbid(23, 23), 12 pairs", ARGUMENT, Worlds::overfull, x -> x.forbid(23, 23));
        refused("forbid(12, 0), forbidden and 12 pairs", STATE, Worlds::overfull, x -> x.forbid(12, 0));
        index("allow(3, 0), not forbidden", x -> x.allow(3, 0));
        index("allow(0, 6), not forbidden", x -> x.allow(0, 6));
        index("thingsIfAllowed(3, 0), not forbidden", x -> x.thingsIfAllowed(3, 0));
        index("thingsIfAllowed(0, 6), not forbidden", x -> x.thingsIfAllowed(0, 6));
        index("step(3, 4), not together", x -> x.step(3, 4));
        index("step(4, 6), not together", x -> x.step(4, 6));
    }

    private void thingsAndFacts() {
        for (int member : new int[] {-1, 24}) {
            noRecords("member(.., " + member + ")", (x, record) -> x.member(record, member));
        }
        // No record of the world has a fact for any field, so an exception for the missing fact applies too.
        Supplier<Assetmerge> factless = Worlds::full;
        for (int record : new int[] {-1, 23, 24}) {
            for (int field : new int[] {-1, 0, 3}) {
                String call = "(" + record + ", " + field + "), no fact";
                refused("fact" + call, INDEX, factless, x -> x.fact(record, field));
                refused("factByPairs" + call, INDEX, factless, x -> x.factByPairs(record, field));
                refused("factFrom" + call, INDEX, factless, x -> x.factFrom(record, field));
                refused("agreement" + call, INDEX, factless, x -> x.agreement(record, field));
            }
        }
        for (int field : new int[] {-1, 3}) {
            refused("fact(0, " + field + "), no fact", INDEX, factless, x -> x.fact(0, field));
            refused("factByPairs(0, " + field + "), no fact", INDEX, factless, x -> x.factByPairs(0, field));
            refused("factFrom(0, " + field + "), no fact", INDEX, factless, x -> x.factFrom(0, field));
            refused("agreement(0, " + field + "), no fact", INDEX, factless, x -> x.agreement(0, field));
        }
    }
}
