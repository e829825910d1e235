/** The bounds that the promises 14 to 24 and 37 name: things and their mark. */
final class ThingBounds extends Bounds {
    private static final String NO_RECORD =
            "Throws `IndexOutOfBoundsException` if there is no such record, or it was dropped";
    private static final String NO_RECORD_OF_TWO = NO_RECORD + ", for either";
    private static final String NOT_FORBIDDEN =
            "Throws `NoSuchElementException` if they are not forbidden to be together";

    ThingBounds(Sentences sentences) {
        super(sentences);
    }

    @Override
    void run() {
        thing();
        things();
        size();
        member();
        areTogether();
        step();
        stepRefuses();
        shared();
        thingsWithout();
        thingsIf();
        thingsIfRefuses();
        thingsIfAllowed();
        mark();
    }

    private void thing() {
        sentence(14, "Returns the number of the thing.");
        for (int record : new int[] {0, 1, 23}) {
            due("thing(" + record + ") of one of 24", Worlds.oneOf24().thing(record), 0);
        }
        due("thing(12) by itself", Worlds.overfull().thing(12), 12);
        due("thing(0) by itself", Worlds.withKeys(keys(1, 2, 3)).thing(0), 0);
        sentence(14, NO_RECORD);
        records("thing", Assetmerge::thing);
        sentence(15, "Returns the number of the thing.");
        for (int record : new int[] {0, 1, 23}) {
            due("thingByRounds(" + record + ") of one of 24", Worlds.oneOf24().thingByRounds(record), 0);
        }
        due("thingByRounds(12) by itself", Worlds.overfull().thingByRounds(12), 12);
        due("thingByRounds(0) by itself", Worlds.withKeys(keys(1, 2, 3)).thingByRounds(0), 0);
        sentence(15, NO_RECORD);
        records("thingByRounds", Assetmerge::thingByRounds);
    }

    private void things() {
        sentence(16, "Returns the number of things.");
        due("things(), empty", new Assetmerge().things(), 0);
        due("things(), sources alone", Worlds.withSources(4).things(), 0);
        due("things(), all dropped", Worlds.emptied().things(), 0);
        due("things(), one of 24", Worlds.oneOf24().things(), 1);
        due("things(), full", Worlds.brimful().things(), 23);
        Assetmerge x = Worlds.brimful();
        x.setKey(0, 0, 98);
        due("things(), full of single ones", x.things(), 24);
    }

    private void size() {
        sentence(17, "Returns the number of records.");
        Assetmerge x = Worlds.oneOf24();
        for (int count = 24; count > 1; count--) {
            due("size(23), " + count + " of them", x.size(23), count);
            due("size of the lowest one, " + count + " of them", x.size(24 - count), count);
            x.drop(24 - count);
        }
        due("size(23) alone", x.size(23), 1);
        sentence(17, NO_RECORD);
        records("size", Assetmerge::size);
    }

    private void member() {
        sentence(18, "they are counted from 0 by rising numbers.");
        Assetmerge x = Worlds.oneOf24();
        for (int index = 0; index < 24; index++) {
            due("member(12, " + index + ")", x.member(12, index), index);
        }
        x.drop(0);
        x.setKey(2, 0, 8);
        due("member(12, 0), 0 dropped", x.member(12, 0), 1);
        due("member(12, 1), 2 is none of them", x.member(12, 1), 3);
        due("member(12, 21), the last one", x.member(12, 21), 23);
        due("member(2, 0), alone", x.member(2, 0), 2);
        sentence(18, NO_RECORD);
        records("member(.., 0)", (y, record) -> y.member(record, 0));
        noRecords("member(.., 24)", (y, record) -> y.member(record, 24));
        sentence(18, "Throws `NoSuchElementException` if there is no such member");
        ends("member(12, ..) of 24", 0, 23, ELEMENT, Worlds::oneOf24, (y, index) -> y.member(12, index));
        ends("member(23, ..) of 2", 0, 1, ELEMENT, Worlds::brimful, (y, index) -> y.member(23, index));
        ends("member(12, ..) of 1", 0, 0, ELEMENT, Worlds::brimful, (y, index) -> y.member(12, index));
        refused("member(0, 23), one of 24 dropped", ELEMENT, () -> {
            Assetmerge y = Worlds.oneOf24();
            y.drop(5);
            return y;
        }, y -> y.member(0, 23));
    }

    private void areTogether() {
        sentence(19, "Returns true if they do.");
        Assetmerge x = Worlds.brimful();
        due("areTogether(0, 23)", x.areTogether(0, 23), true);
        due("areTogether(23, 0)", x.areTogether(23, 0), true);
        due("areTogether(0, 0)", x.areTogether(0, 0), true);
        due("areTogether(0, 1)", x.areTogether(0, 1), false);
        due("areTogether(22, 23)", x.areTogether(22, 23), false);
        for (int kind = 0; kind < 3; kind++) {
            int[] row = keys(-1, -1, -1);
            row[kind] = 99;
            Assetmerge two = Worlds.withKeys(row, row);
            due("areTogether(0, 1) by the kind " + kind, two.areTogether(0, 1), true);
            due("areTogether(1, 0) by the kind " + kind, two.areTogether(1, 0), true);
        }
        sentence(19, NO_RECORD_OF_TWO);
        records("areTogether(.., 0)", (y, record) -> y.areTogether(record, 0));
        records("areTogether(0, ..)", (y, record) -> y.areTogether(0, record));
        noRecords("areTogether(.., same)", (y, record) -> y.areTogether(record, record));
        noRecords("areTogether(.., 1)", (y, record) -> y.areTogether(record, 1));
        noRecords("areTogether(1, ..)", (y, record) -> y.areTogether(1, record));
    }

    private void step() {
        sentence(20, "Returns the kind by whose step two records came into one group.");
        due("step(0, 23)", Worlds.oneOf24().step(0, 23), 0);
        Assetmerge all = Worlds.withKeys(keys(1, 5, 9), keys(1, 5, 9), keys(-1, 5, 9), keys(-1, -1, 9));
        due("step(0, 1), all of their keys are the same", all.step(0, 1), 0);
        due("step(1, 2)", all.step(1, 2), 1);
        due("step(3, 2)", all.step(3, 2), 2);
        due("step(0, 3)", all.step(0, 3), 2);
        Assetmerge over = Worlds.withKeys(keys(-1, 5, 9), keys(1, 5, -1), keys(1, -1, 9));
        due("step(0, 2), over 1 ahead of their own key", over.step(0, 2), 1);
    }

    private void stepRefuses() {
        sentence(20, NO_RECORD_OF_TWO);
        answered("step(0, 23)", Worlds::brimful, x -> x.step(0, 23));
        answered("step(23, 0)", Worlds::brimful, x -> x.step(23, 0));
        noRecords("step(.., 0)", (x, record) -> x.step(record, 0));
        noRecords("step(0, ..)", (x, record) -> x.step(0, record));
        noRecords("step(.., 1)", (x, record) -> x.step(record, 1));
        noRecords("step(1, ..)", (x, record) -> x.step(1, record));
        sentence(20, "Throws `IllegalArgumentException` if both are the same");
        for (int record : new int[] {0, 12, 23}) {
            refused("step(" + record + ", same)", ARGUMENT, Worlds::brimful, x -> x.step(record, record));
        }
        refused("step(0, 0), one record", ARGUMENT, () -> Worlds.withKeys(keys(1, 1, 1)), x -> x.step(0, 0));
        sentence(20, "Throws `NoSuchElementException` if they are not together");
        refused("step(0, 1)", ELEMENT, Worlds::brimful, x -> x.step(0, 1));
        refused("step(23, 22)", ELEMENT, Worlds::brimful, x -> x.step(23, 22));
        refused("step(0, 2), the same key", ELEMENT, Worlds::mixed, x -> x.step(0, 2));
        refused("step(0, 1), no keys", ELEMENT, Worlds::full, x -> x.step(0, 1));
    }

    private void shared() {
        sentence(21, "Returns the number of keys of a kind that records of more than one thing have.");
        for (int k = 0; k < 3; k++) {
            due("shared(" + k + "), empty", new Assetmerge().shared(k), 0);
            due("shared(" + k + "), sources alone", Worlds.withSources(4).shared(k), 0);
            due("shared(" + k + "), all dropped", Worlds.emptied().shared(k), 0);
            due("shared(" + k + "), none is no key", Worlds.full().shared(k), 0);
            due("shared(" + k + "), of one thing", Worlds.oneOf24().shared(k), 0);
            Assetmerge x = Worlds.withSources(1);
            for (int i = 0; i < 24; i++) {
                int[] row = keys(-1, -1, -1);
                row[k] = i < 12 ? 0 : 99;
                x.addRecord(0, row[0], row[1], row[2]);
            }
            due("shared(" + k + "), two things", x.shared(k), 0);
            x.forbid(0, 11);
            due("shared(" + k + "), the key 0 of 12 things", x.shared(k), 1);
            x.forbid(12, 23);
            due("shared(" + k + "), the keys 0 and 99", x.shared(k), 2);
        }
        Assetmerge two = Worlds.withKeys(keys(1, 5, -1), keys(2, 5, -1));
        due("shared(1), of two things", two.shared(1), 1);
        two.drop(0);
        due("shared(1), of one thing", two.shared(1), 0);
        Assetmerge late = Worlds.withKeys(keys(-1, -1, 9), keys(-1, 5, 9), keys(-1, 5, -1));
        due("shared(1), of one thing behind the last step", late.shared(1), 0);
        sentence(21, "Throws `IndexOutOfBoundsException` if there is no such kind");
        threeOf("shared", Worlds::brimful, Assetmerge::shared);
        threeOf("shared, empty", Assetmerge::new, Assetmerge::shared);
    }

    private void thingsWithout() {
        sentence(22, "Returns the number of things.");
        due("thingsWithout(0), the only one", Worlds.withKeys(keys(1, 1, 1)).thingsWithout(0), 0);
        due("thingsWithout(0), of one of 24", Worlds.oneOf24().thingsWithout(0), 1);
        due("thingsWithout(23), of one of 24", Worlds.oneOf24().thingsWithout(23), 1);
        due("thingsWithout(22), of 23 single ones", Worlds.full().thingsWithout(22), 22);
        due("thingsWithout(12), full", Worlds.brimful().thingsWithout(12), 22);
        due("thingsWithout(0), full", Worlds.brimful().thingsWithout(0), 23);
        Assetmerge x = Worlds.brimful();
        x.thingsWithout(0);
        x.thingsWithout(23);
        unchanged(x, Worlds.brimful());
        sentence(22, NO_RECORD);
        records("thingsWithout", Assetmerge::thingsWithout);
    }

    private void unchanged(Assetmerge x, Assetmerge untouched) {
        due("records() behind it", x.records(), untouched.records());
        due("mark() behind it", x.mark(), untouched.mark());
        due("keys, days and weights behind it", Probe.RECORDS.tell(x), Probe.RECORDS.tell(untouched));
        due("pairs behind it", Probe.PAIRS.tell(x), Probe.PAIRS.tell(untouched));
    }

    private void thingsIf() {
        sentence(23, "- `key`: the key, or -1 for none");
        Assetmerge x = Worlds.brimful();
        due("thingsIf(0, 0, -1)", x.thingsIf(0, 0, -1), 24);
        due("thingsIf(0, 0, 98)", x.thingsIf(0, 0, 98), 24);
        due("thingsIf(0, 0, 99), its own key", x.thingsIf(0, 0, 99), 23);
        due("thingsIf(22, 0, 99)", x.thingsIf(22, 0, 99), 22);
        due("thingsIf(22, 1, 0)", x.thingsIf(22, 1, 0), 22);
        due("thingsIf(22, 1, -1)", x.thingsIf(22, 1, -1), 23);
        due("thingsIf(12, 0, 99), forbidden", x.thingsIf(12, 0, 99), 24);
        unchanged(x, Worlds.brimful());
        for (int kind = 0; kind < 3; kind++) {
            int[] row = keys(-1, -1, -1);
            row[kind] = 0;
            Assetmerge y = Worlds.withKeys(row, keys(-1, -1, -1));
            due("thingsIf(1, " + kind + ", 0)", y.thingsIf(1, kind, 0), 1);
            due("thingsIf(1, " + kind + ", -1)", y.thingsIf(1, kind, -1), 2);
            due("thingsIf(0, " + kind + ", -1), both have none", y.thingsIf(0, kind, -1), 2);
            due("things() behind it", y.things(), 2);
        }
    }

    private void thingsIfRefuses() {
        sentence(23, NO_RECORD + ", or there is no such kind");
        records("thingsIf(.., 0, 1)", (x, record) -> x.thingsIf(record, 0, 1));
        records("thingsIf(.., 2, -1)", (x, record) -> x.thingsIf(record, 2, -1));
        threeOf("thingsIf(0, .., 1)", Worlds::mixed, (x, kind) -> x.thingsIf(0, kind, 1));
        threeOf("thingsIf(23, .., -1)", Worlds::brimful, (x, kind) -> x.thingsIf(23, kind, -1));
        sentence(23, "Throws `IllegalArgumentException` if the key is not between -1 and 99");
        for (int i = 0; i < 3; i++) {
            int kind = i;
            range("thingsIf(0, " + i + ", ..)", -1, 99, Worlds::mixed, (x, key) -> x.thingsIf(0, kind, key));
            range("thingsIf(23, " + i + ", ..)", -1, 99, Worlds::brimful, (x, key) -> x.thingsIf(23, kind, key));
        }
    }

    private void thingsIfAllowed() {
        sentence(24, "Returns the number of things.");
        Assetmerge x = Worlds.oneOf24();
        x.forbid(0, 23);
        due("thingsIfAllowed(23, 0), of 24 single ones", x.thingsIfAllowed(23, 0), 1);
        x.forbid(0, 22);
        due("thingsIfAllowed(0, 23), another pair bars", x.thingsIfAllowed(0, 23), 24);
        x.drop(22);
        due("thingsIfAllowed(0, 23), that of a dropped record does not", x.thingsIfAllowed(0, 23), 1);
        Assetmerge full = Worlds.overfull();
        due("thingsIfAllowed(10, 12), 12 pairs", full.thingsIfAllowed(10, 12), 23);
        unchanged(full, Worlds.overfull());
        sentence(24, NO_RECORD_OF_TWO);
        answered("thingsIfAllowed(0, 12)", Worlds::brimful, y -> y.thingsIfAllowed(0, 12));
        answered("thingsIfAllowed(12, 0)", Worlds::brimful, y -> y.thingsIfAllowed(12, 0));
        answered("thingsIfAllowed(23, 12)", Worlds::brimful, y -> y.thingsIfAllowed(23, 12));
        answered("thingsIfAllowed(12, 23)", Worlds::brimful, y -> y.thingsIfAllowed(12, 23));
        noRecords("thingsIfAllowed(.., 0)", (y, record) -> y.thingsIfAllowed(record, 0));
        noRecords("thingsIfAllowed(0, ..)", (y, record) -> y.thingsIfAllowed(0, record));
        noRecords("thingsIfAllowed(.., 1)", (y, record) -> y.thingsIfAllowed(record, 1));
        noRecords("thingsIfAllowed(1, ..)", (y, record) -> y.thingsIfAllowed(1, record));
        sentence(24, NOT_FORBIDDEN);
        refused("thingsIfAllowed(0, 23)", ELEMENT, Worlds::brimful, y -> y.thingsIfAllowed(0, 23));
        refused("thingsIfAllowed(23, 22)", ELEMENT, Worlds::brimful, y -> y.thingsIfAllowed(23, 22));
        refused("thingsIfAllowed(12, 12)", ELEMENT, Worlds::brimful, y -> y.thingsIfAllowed(12, 12));
        refused("thingsIfAllowed(0, 12), allowed before", ELEMENT, () -> {
            Assetmerge y = Worlds.brimful();
            y.allow(12, 0);
            return y;
        }, y -> y.thingsIfAllowed(0, 12));
    }

    private void mark() {
        sentence(37, "for each thing, the square of the number of its records times the sum of their numbers, plus 1; "
                + "the mark is the sum of this over all things.");
        due("mark(), empty", new Assetmerge().mark(), 0L);
        due("mark(), sources alone", Worlds.withSources(4).mark(), 0L);
        due("mark(), all dropped", Worlds.emptied().mark(), 0L);
        due("mark(), the record 0 alone", Worlds.withKeys(keys(1, 1, 1)).mark(), 1L);
        due("mark(), one thing of 24", Worlds.oneOf24().mark(), 24L * 24 * 276 + 1);
        Assetmerge parted = Worlds.oneOf24();
        parted.forbid(0, 1);
        due("mark(), 24 things", parted.mark(), 276L + 24);
        due("mark(), the records 0 and 23 together", Worlds.brimful().mark(), (4L * 23 + 1) + (276L - 23 + 22));
    }
}
