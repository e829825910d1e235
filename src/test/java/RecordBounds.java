/** The bounds that the promises 1 to 13 name: sources and records. */
final class RecordBounds extends Bounds {
    private static final String NO_RECORD =
            "Throws `IndexOutOfBoundsException` if there is no such record, or it was dropped";
    private static final String NO_RECORD_OF_TWO = NO_RECORD + ", for either";
    private static final String NO_RECORD_OR_KIND = NO_RECORD + ", or there is no such kind";
    private static final String NO_RECORD_OR_FIELD = NO_RECORD + ", or there is no such field";
    private static final String NO_SOURCE = "Throws `IndexOutOfBoundsException` if there is no such source";
    private static final String PAIRS_LEFT = "Returns the number of pairs that are forbidden, those of dropped records "
            + "left out.";

    RecordBounds(Sentences sentences) {
        super(sentences);
    }

    @Override
    void run() {
        newObject();
        addSource();
        setTrust();
        addRecordKeys();
        addRecord();
        setKey();
        setFact();
        see();
        drop();
        forbidCounts();
        forbid();
        allowCounts();
        allow();
        countsRecords();
        key();
        seen();
    }

    private void newObject() {
        sentence(1, "`Assetmerge()`: Creates a joiner without sources and records, on the day 0.");
        Assetmerge x = new Assetmerge();
        due("records()", x.records(), 0);
        due("things()", x.things(), 0);
        due("shared(0)", x.shared(0), 0);
        due("shared(2)", x.shared(2), 0);
        due("ghosts()", x.ghosts(), 0);
        nextGhostDue("empty", x, -1);
        due("mark()", x.mark(), 0L);
        due("today()", x.today(), 0);
        due("setLimit(99)", x.setLimit(99), 30);
        due("addSource(1)", x.addSource(1), 0);
        due("addRecord(0, -1, -1, -1)", x.addRecord(0, -1, -1, -1), 0);
        due("things() of the other object", new Assetmerge().things(), 0);
        refused("seen(0)", INDEX, Assetmerge::new, y -> y.seen(0));
        refused("setTrust(0, 1)", INDEX, Assetmerge::new, y -> y.setTrust(0, 1));
    }

    private void addSource() {
        sentence(2, "Throws `IllegalArgumentException` if the trust is not between 1 and 9");
        range("addSource, empty", 1, 9, Assetmerge::new, Assetmerge::addSource);
        range("addSource, the last one", 1, 9, () -> Worlds.withSources(3), Assetmerge::addSource);
        sentence(2, "Throws `IllegalStateException` if there are 4 sources");
        Assetmerge x = new Assetmerge();
        for (int i = 0; i < 4; i++) {
            due("addSource(" + (i + 1) + ")", x.addSource(i + 1), i);
        }
        for (int trust : new int[] {1, 5, 9}) {
            refused("a fifth addSource(" + trust + ")", STATE, () -> Worlds.withSources(4), y -> y.addSource(trust));
            refused("a fifth addSource(" + trust + "), full", STATE, Worlds::brimful, y -> y.addSource(trust));
        }
    }

    private void setTrust() {
        sentence(3, NO_SOURCE);
        ends("setTrust", 0, 3, INDEX, Worlds::brimful, (x, source) -> x.setTrust(source, 5));
        ends("setTrust", 0, 1, INDEX, Worlds::mixed, (x, source) -> x.setTrust(source, 5));
        noSources("setTrust", (x, source) -> x.setTrust(source, 5));
        sentence(3, "Throws `IllegalArgumentException` if the trust is not between 1 and 9");
        range("setTrust(0)", 1, 9, Worlds::brimful, (x, trust) -> x.setTrust(0, trust));
        range("setTrust(3)", 1, 9, Worlds::brimful, (x, trust) -> x.setTrust(3, trust));
        Assetmerge x = Worlds.brimful();
        due("setTrust(0, 9)", x.setTrust(0, 9), 1);
        due("setTrust(0, 1)", x.setTrust(0, 1), 9);
        due("setTrust(3, 1)", x.setTrust(3, 1), 5);
        due("setTrust(1, 1)", x.setTrust(1, 1), 9);
    }

    private void addRecordKeys() {
        String[] sentences = {
            "- `strong`: its key of the kind 0, or -1 for none", "- `middle`: its key of the kind 1, or -1 for none",
            "- `weak`: its key of the kind 2, or -1 for none"
        };
        for (int place = 0; place < 3; place++) {
            sentence(4, sentences[place]);
            for (int key : new int[] {-1, 0, 99}) {
                Assetmerge x = Worlds.withSources(1);
                int[] row = {7, 7, 7};
                row[place] = key;
                x.addRecord(0, row[0], row[1], row[2]);
                for (int kind = 0; kind < 3; kind++) {
                    due("key(0, " + kind + ") with " + key, x.key(0, kind), row[kind]);
                }
                row = new int[] {-1, -1, -1};
                row[place] = key;
                due("things() with " + key, Worlds.withKeys(row, row).things(), key == -1 ? 2 : 1);
            }
        }
    }

    private void addRecord() {
        sentence(4, NO_SOURCE);
        ends("addRecord, 4 sources", 0, 3, INDEX, () -> Worlds.withSources(4),
                (x, source) -> x.addRecord(source, 1, 1, 1));
        noSources("addRecord", (x, source) -> x.addRecord(source, -1, -1, -1));
        sentence(4, "Throws `IllegalArgumentException` if a key is not between -1 and 99");
        range("addRecord(0, .., 1, 1)", -1, 99, Worlds::mixed, (x, key) -> x.addRecord(0, key, 1, 1));
        range("addRecord(0, 1, .., 1)", -1, 99, Worlds::mixed, (x, key) -> x.addRecord(0, 1, key, 1));
        range("addRecord(0, 1, 1, ..)", -1, 99, Worlds::mixed, (x, key) -> x.addRecord(0, 1, 1, key));
        sentence(4, "Throws `IllegalStateException` if there are 24 records");
        Assetmerge x = Worlds.withSources(4);
        for (int i = 0; i < 24; i++) {
            due("addRecord, the record " + i, x.addRecord(3, 99, -1, -1), i);
        }
        refused("addRecord, 24 records", STATE, Worlds::brimful, y -> y.addRecord(3, 99, -1, -1));
        refused("addRecord, one of 24 dropped", STATE, Worlds::full, y -> y.addRecord(0, -1, -1, -1));
        refused("addRecord, 24 dropped", STATE, Worlds::emptied, y -> y.addRecord(0, -1, -1, -1));
        sentence(4, "Adds a record without facts.");
        for (int i = 0; i < 3; i++) {
            int field = i;
            refused("fact(0, " + i + ")", ELEMENT, () -> Worlds.withKeys(keys(1, 1, 1)), y -> y.fact(0, field));
            due("setFact(23, " + i + ", 0)", x.setFact(23, i, 0), -1);
        }
    }

    private void setKey() {
        sentence(5, "- `key`: the key, or -1 for none");
        for (int kind = 0; kind < 3; kind++) {
            int[] row = keys(-1, -1, -1);
            row[kind] = 0;
            Assetmerge x = Worlds.withKeys(row, row);
            x.setKey(1, kind, -1);
            due("things() behind setKey(1, " + kind + ", -1)", x.things(), 2);
            x.setKey(0, kind, -1);
            due("things() with no keys of the kind " + kind, x.things(), 2);
        }
        sentence(5, "Returns the key before, or -1.");
        for (int kind = 0; kind < 3; kind++) {
            Assetmerge x = Worlds.withKeys(keys(-1, -1, -1));
            int before = -1;
            for (int key : new int[] {0, 99, -1, -1, 99, 0}) {
                due("setKey(0, " + kind + ", " + key + ")", x.setKey(0, kind, key), before);
                before = key;
            }
        }
        sentence(5, NO_RECORD_OR_KIND);
        records("setKey(.., 0, 1)", (x, record) -> x.setKey(record, 0, 1));
        records("setKey(.., 2, -1)", (x, record) -> x.setKey(record, 2, -1));
        threeOf("setKey(0, .., 1)", Worlds::mixed, (x, kind) -> x.setKey(0, kind, 1));
        threeOf("setKey(23, .., -1)", Worlds::brimful, (x, kind) -> x.setKey(23, kind, -1));
        sentence(5, "Throws `IllegalArgumentException` if the key is not between -1 and 99");
        for (int i = 0; i < 3; i++) {
            int kind = i;
            range("setKey(0, " + i + ", ..)", -1, 99, Worlds::mixed, (x, key) -> x.setKey(0, kind, key));
            range("setKey(23, " + i + ", ..)", -1, 99, Worlds::brimful, (x, key) -> x.setKey(23, kind, key));
        }
    }

    private void setFact() {
        sentence(6, "Sets a fact of a record; the day on which it was seen last stays.");
        Assetmerge later = Worlds.onDay(999);
        later.setFact(0, 0, 999);
        due("seen(0) behind setFact", later.seen(0), 0);
        due("isGhost(0) behind setFact", later.isGhost(0), true);
        sentence(6, "- `fact`: the fact, or -1 for none");
        for (int i = 0; i < 3; i++) {
            int field = i;
            refused("fact(0, " + i + ") behind setFact(0, " + i + ", -1)", ELEMENT, () -> {
                Assetmerge y = Worlds.oneThing(5);
                y.setFact(0, field, 0);
                y.setFact(0, field, -1);
                return y;
            }, y -> y.fact(0, field));
        }
        sentence(6, "Returns the fact before, or -1.");
        for (int field = 0; field < 3; field++) {
            Assetmerge x = Worlds.withKeys(keys(1, 1, 1));
            int before = -1;
            for (int fact : new int[] {0, 999, -1, -1, 999, 0}) {
                due("setFact(0, " + field + ", " + fact + ")", x.setFact(0, field, fact), before);
                before = fact;
            }
        }
        sentence(6, NO_RECORD_OR_FIELD);
        records("setFact(.., 0, 1)", (x, record) -> x.setFact(record, 0, 1));
        records("setFact(.., 2, -1)", (x, record) -> x.setFact(record, 2, -1));
        threeOf("setFact(0, .., 1)", Worlds::mixed, (x, field) -> x.setFact(0, field, 1));
        threeOf("setFact(23, .., -1)", Worlds::brimful, (x, field) -> x.setFact(23, field, -1));
        sentence(6, "Throws `IllegalArgumentException` if the fact is not between -1 and 999");
        for (int i = 0; i < 3; i++) {
            int field = i;
            range("setFact(0, " + i + ", ..)", -1, 999, Worlds::mixed, (x, fact) -> x.setFact(0, field, fact));
            range("setFact(23, " + i + ", ..)", -1, 999, Worlds::brimful, (x, fact) -> x.setFact(23, field, fact));
        }
    }

    private void see() {
        sentence(7, "Returns the day on which it was seen last before.");
        Assetmerge x = Worlds.onDay(999);
        due("see(0) on the last day", x.see(0), 0);
        due("see(0) on the last day again", x.see(0), 999);
        due("see(0) on the day 0", Worlds.onDay(0).see(0), 0);
        sentence(7, NO_RECORD);
        records("see", Assetmerge::see);
    }

    private void drop() {
        sentence(8, "Returns the number of records that are left.");
        Assetmerge x = Worlds.brimful();
        for (int left = 23; left >= 0; left--) {
            due("drop, " + left + " are left", x.drop(left % 2 == 0 ? left / 2 : 23 - left / 2), left);
        }
        due("drop(0) of one", Worlds.withKeys(keys(1, 1, 1)).drop(0), 0);
        sentence(8, NO_RECORD);
        records("drop", Assetmerge::drop);
        for (int record = 0; record < 24; record++) {
            int dropped = record;
            due("a second drop(" + record + ")", Checks.thrown(() -> x.drop(dropped)), INDEX.getSimpleName());
        }
    }

    private void forbidCounts() {
        sentence(9, PAIRS_LEFT);
        Assetmerge x = Worlds.full();
        for (int i = 1; i <= 11; i++) {
            due("forbid, the pair " + i, i % 2 == 0 ? x.forbid(0, i) : x.forbid(i, 0), i);
        }
        x.drop(11);
        due("forbid, the 12th pair, one of a dropped record", x.forbid(22, 21), 11);
        Assetmerge dropped = Worlds.brimful();
        dropped.drop(12);
        due("forbid, 11 pairs of a dropped record", dropped.forbid(0, 23), 1);
    }

    private void forbid() {
        sentence(9, NO_RECORD_OF_TWO);
        records("forbid(.., 13)", (x, record) -> x.forbid(record, 13));
        records("forbid(13, ..)", (x, record) -> x.forbid(13, record));
        noRecords("forbid(.., 0)", (x, record) -> x.forbid(record, 0));
        noRecords("forbid(0, ..)", (x, record) -> x.forbid(0, record));
        sentence(9, "Throws `IllegalArgumentException` if both are the same");
        for (int record : new int[] {0, 12, 23}) {
            refused("forbid(" + record + ", same)", ARGUMENT, Worlds::brimful, x -> x.forbid(record, record));
        }
        answered("forbid(0, 1)", Worlds::brimful, x -> x.forbid(0, 1));
        answered("forbid(23, 22)", Worlds::brimful, x -> x.forbid(23, 22));
        sentence(9, "Throws `IllegalStateException` if they are forbidden to be together, or there are 12 pairs, those of "
                + "dropped records included");
        refused("forbid(0, 12), forbidden", STATE, Worlds::brimful, x -> x.forbid(0, 12));
        refused("forbid(12, 0), forbidden", STATE, Worlds::brimful, x -> x.forbid(12, 0));
        refused("forbid(12, 23), forbidden", STATE, Worlds::brimful, x -> x.forbid(12, 23));
        answered("forbid(0, 13), the 12th pair", Worlds::brimful, x -> x.forbid(0, 13));
        refused("forbid(0, 13), the 13th pair", STATE, Worlds::overfull, x -> x.forbid(0, 13));
        refused("forbid(0, 12), forbidden and 12 pairs", STATE, Worlds::overfull, x -> x.forbid(0, 12));
        refused("forbid(1, 2), one of 12 pairs dropped", STATE, Worlds::parted, x -> x.forbid(1, 2));
        refused("forbid(0, 1), all of 12 pairs dropped", STATE, RecordBounds::allPairsDropped, x -> x.forbid(0, 1));
        Assetmerge again = Worlds.overfull();
        again.allow(12, 3);
        due("forbid(12, 3) behind allow", again.forbid(12, 3), 12);
        again.allow(0, 12);
        due("forbid(22, 21) behind allow", again.forbid(22, 21), 12);
    }

    private static Assetmerge allPairsDropped() {
        Assetmerge x = Worlds.overfull();
        x.drop(12);
        return x;
    }

    private void allowCounts() {
        sentence(10, PAIRS_LEFT);
        Assetmerge x = Worlds.overfull();
        x.drop(0);
        for (int i = 1; i <= 10; i++) {
            due("allow of " + i, i % 2 == 0 ? x.allow(12, i) : x.allow(i, 12), 11 - i);
        }
        due("allow, the last one that is left", x.allow(23, 12), 0);
        due("forbid behind all", x.forbid(1, 2), 1);
        Assetmerge parted = Worlds.parted();
        due("allow(0, 1), one of 12 pairs dropped", parted.allow(0, 1), 10);
        due("forbid(1, 2) behind it, the 12th pair", parted.forbid(1, 2), 11);
    }

    private void allow() {
        sentence(10, NO_RECORD_OF_TWO);
        answered("allow(0, 12)", Worlds::brimful, x -> x.allow(0, 12));
        answered("allow(12, 0)", Worlds::brimful, x -> x.allow(12, 0));
        answered("allow(23, 12)", Worlds::brimful, x -> x.allow(23, 12));
        answered("allow(12, 23)", Worlds::brimful, x -> x.allow(12, 23));
        noRecords("allow(.., 0)", (x, record) -> x.allow(record, 0));
        noRecords("allow(0, ..)", (x, record) -> x.allow(0, record));
        noRecords("allow(.., 1)", (x, record) -> x.allow(record, 1));
        noRecords("allow(1, ..)", (x, record) -> x.allow(1, record));
        sentence(10, "Throws `NoSuchElementException` if they are not forbidden to be together");
        refused("allow(0, 1)", ELEMENT, Worlds::brimful, x -> x.allow(0, 1));
        refused("allow(23, 22)", ELEMENT, Worlds::brimful, x -> x.allow(23, 22));
        refused("allow(0, 23)", ELEMENT, Worlds::brimful, x -> x.allow(0, 23));
        refused("allow(0, 0)", ELEMENT, Worlds::brimful, x -> x.allow(0, 0));
        refused("allow(12, 12)", ELEMENT, Worlds::brimful, x -> x.allow(12, 12));
        refused("allow(0, 12), allowed before", ELEMENT, RecordBounds::allowedBefore, x -> x.allow(0, 12));
        refused("allow(12, 0), allowed before", ELEMENT, RecordBounds::allowedBefore, x -> x.allow(12, 0));
        refused("allow(0, 22), no pairs at all", ELEMENT, Worlds::full, x -> x.allow(0, 22));
    }

    private static Assetmerge allowedBefore() {
        Assetmerge x = Worlds.brimful();
        x.allow(0, 12);
        return x;
    }

    private void countsRecords() {
        sentence(11, "`int records()`: Returns the number of records, dropped ones left out.");
        due("records(), empty", new Assetmerge().records(), 0);
        due("records(), sources alone", Worlds.withSources(4).records(), 0);
        due("records(), one", Worlds.withKeys(keys(-1, -1, -1)).records(), 1);
        due("records(), full", Worlds.brimful().records(), 24);
        due("records(), one of 24 dropped", Worlds.full().records(), 23);
        due("records(), all dropped", Worlds.emptied().records(), 0);
    }

    private void key() {
        sentence(12, "Returns the key, or -1 for none.");
        Assetmerge x = Worlds.withKeys(keys(-1, 0, 99), keys(0, 99, -1), keys(99, -1, 0));
        int[][] due = {{-1, 0, 99}, {0, 99, -1}, {99, -1, 0}};
        for (int record = 0; record < 3; record++) {
            for (int kind = 0; kind < 3; kind++) {
                due("key(" + record + ", " + kind + ")", x.key(record, kind), due[record][kind]);
            }
        }
        sentence(12, NO_RECORD_OR_KIND);
        records("key(.., 0)", (y, record) -> y.key(record, 0));
        records("key(.., 2)", (y, record) -> y.key(record, 2));
        noRecords("key(.., 3)", (y, record) -> y.key(record, 3));
        threeOf("key(0, ..)", Worlds::mixed, (y, kind) -> y.key(0, kind));
        threeOf("key(23, ..)", Worlds::brimful, (y, kind) -> y.key(23, kind));
    }

    private void seen() {
        sentence(13, "`int seen(int record) throws IndexOutOfBoundsException`: Returns the day on which a record was seen "
                + "last.");
        due("seen(0) on the day 0", Worlds.onDay(0).seen(0), 0);
        Assetmerge x = Worlds.onDay(999);
        due("seen(0), not since the day 0", x.seen(0), 0);
        x.see(0);
        due("seen(0), the last day", x.seen(0), 999);
        sentence(13, NO_RECORD);
        records("seen", Assetmerge::seen);
    }
}
