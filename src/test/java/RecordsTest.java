import java.util.NoSuchElementException;
import java.util.function.Consumer;
import java.util.function.Supplier;

/** Promises 1 to 13, 35 and 36: sources and records, and days. */
public final class RecordsTest {
    private static final Class<IndexOutOfBoundsException> INDEX = IndexOutOfBoundsException.class;
    private static final Class<IllegalArgumentException> ARGUMENT = IllegalArgumentException.class;
    private static final Class<IllegalStateException> STATE = IllegalStateException.class;
    private static final Class<NoSuchElementException> ELEMENT = NoSuchElementException.class;
    private static final int[] NO_RECORDS = {-1, 3, 6, 24, 32, 33, Integer.MIN_VALUE, Integer.MAX_VALUE};
    private static final int[] NO_KINDS = {-1, 3, Integer.MIN_VALUE, Integer.MAX_VALUE};
    private static final int[] NO_TRUSTS = {0, 10, -1, Integer.MIN_VALUE, Integer.MAX_VALUE};
    private static final int[] NO_KEYS = {-2, 100, Integer.MIN_VALUE, Integer.MAX_VALUE};

    public static void main(String[] args) {
        newObject();
        addSource();
        setTrust();
        addRecord();
        addRecordRefuses();
        setKey();
        setFact();
        see();
        drop();
        forbid();
        forbidRefuses();
        allow();
        countsRecords();
        tellsKey();
        tellsSeen();
        pass();
        today();
        Checks.end();
    }

    private static void refused(String call, Class<? extends RuntimeException> due, Supplier<Assetmerge> world,
            Consumer<Assetmerge> wrongCall) {
        Checks.refused(call, due, world, wrongCall);
    }

    private static void newObject() {
        Assetmerge x = new Assetmerge();
        Checks.due("1 records()", x.records(), 0);
        Checks.due("1 things()", x.things(), 0);
        Checks.due("1 today()", x.today(), 0);
        Checks.due("1 ghosts()", x.ghosts(), 0);
        Checks.due("1 nextGhost()", x.nextGhost(), -1);
        Checks.due("1 nextGhostByDays()", x.nextGhostByDays(), -1);
        Checks.due("1 mark()", x.mark(), 0L);
        for (int kind = 0; kind < 3; kind++) {
            Checks.due("1 shared(" + kind + ")", x.shared(kind), 0);
        }
        refused("1 setTrust(0, 5)", INDEX, Assetmerge::new, y -> y.setTrust(0, 5));
        refused("1 addRecord(0, 1, 1, 1)", INDEX, Assetmerge::new, y -> y.addRecord(0, 1, 1, 1));
        refused("1 seen(0)", INDEX, Assetmerge::new, y -> y.seen(0));
        Assetmerge other = new Assetmerge();
        x.addSource(1);
        x.addRecord(0, 1, 1, 1);
        Checks.due("1 records() of another object", other.records(), 0);
        Checks.due("1 addSource(9) of another object", other.addSource(9), 0);
    }

    private static void addSource() {
        Assetmerge x = new Assetmerge();
        int[] trusts = {1, 9, 5, 5};
        for (int i = 0; i < trusts.length; i++) {
            Checks.due("2 addSource(" + trusts[i] + ")", x.addSource(trusts[i]), i);
        }
        for (int i = 0; i < trusts.length; i++) {
            Checks.due("2 addRecord of the source " + i, x.addRecord(i, -1, -1, -1), i);
            Checks.due("2 weight(" + i + ")", x.weight(i), trusts[i]);
        }
        for (int trust : NO_TRUSTS) {
            refused("2 addSource(" + trust + ")", ARGUMENT, Worlds::mixed, y -> y.addSource(trust));
            refused("2 a fifth addSource(" + trust + ")", ARGUMENT, () -> Worlds.withSources(4),
                    y -> y.addSource(trust));
        }
        refused("2 a fifth addSource(5)", STATE, () -> Worlds.withSources(4), y -> y.addSource(5));
    }

    private static void setTrust() {
        Assetmerge x = Worlds.mixed();
        Checks.due("3 setTrust(1, 9)", x.setTrust(1, 9), 7);
        Checks.due("3 setTrust(1, 1)", x.setTrust(1, 1), 9);
        Checks.due("3 setTrust(1, 1) again", x.setTrust(1, 1), 1);
        Checks.due("3 setTrust(0, 6)", x.setTrust(0, 6), 5);
        Checks.due("3 weight(1)", x.weight(1), -1);
        Checks.due("3 weight(4)", x.weight(4), 6);
        for (int source : new int[] {-1, 2, 4, Integer.MIN_VALUE, Integer.MAX_VALUE}) {
            refused("3 setTrust(" + source + ", 5)", INDEX, Worlds::mixed, y -> y.setTrust(source, 5));
            refused("3 setTrust(" + source + ", 0)", INDEX, Worlds::mixed, y -> y.setTrust(source, 0));
        }
        for (int trust : NO_TRUSTS) {
            refused("3 setTrust(1, " + trust + ")", ARGUMENT, Worlds::mixed, y -> y.setTrust(1, trust));
        }
    }

    private static void addRecord() {
        Assetmerge x = Worlds.withSources(2);
        x.setTrust(1, 8);
        x.pass(7);
        Checks.due("4 addRecord(1, 0, 99, -1)", x.addRecord(1, 0, 99, -1), 0);
        Checks.due("4 addRecord(0, -1, 0, 99)", x.addRecord(0, -1, 0, 99), 1);
        int[][] due = {{0, 99, -1}, {-1, 0, 99}};
        for (int record = 0; record < due.length; record++) {
            for (int kind = 0; kind < 3; kind++) {
                Checks.due("4 key(" + record + ", " + kind + ")", x.key(record, kind), due[record][kind]);
                int field = kind;
                Checks.due("4 setFact behind addRecord", x.setFact(record, field, 5), -1);
            }
            Checks.due("4 seen(" + record + ")", x.seen(record), 7);
        }
        Checks.due("4 weight(0)", x.weight(0), 8);
        Checks.due("4 weight(1)", x.weight(1), 5);
        x.drop(1);
        Checks.due("4 addRecord behind drop", x.addRecord(0, 1, 1, 1), 2);
    }

    private static void addRecordRefuses() {
        Assetmerge x = Worlds.withSources(1);
        for (int i = 0; i < 24; i++) {
            Checks.due("4 addRecord, the " + i + "th", x.addRecord(0, i, i, i), i);
        }
        refused("4 addRecord, one too many", STATE, Worlds::full, y -> y.addRecord(0, 1, 1, 1));
        for (int source : new int[] {-1, 2, 4, Integer.MIN_VALUE, Integer.MAX_VALUE}) {
            refused("4 addRecord(" + source + ", 1, 1, 1)", INDEX, Worlds::mixed, y -> y.addRecord(source, 1, 1, 1));
            refused("4 addRecord(" + source + ", 100, 1, 1)", INDEX, Worlds::mixed,
                    y -> y.addRecord(source, 100, 1, 1));
            refused("4 addRecord(" + source + ", 1, 1, 1), full", INDEX, Worlds::full,
                    y -> y.addRecord(source == 2 ? 1 : source, 1, 1, 1));
        }
        for (int key : NO_KEYS) {
            refused("4 addRecord(0, " + key + ", 1, 1)", ARGUMENT, Worlds::mixed, y -> y.addRecord(0, key, 1, 1));
            refused("4 addRecord(0, 1, " + key + ", 1)", ARGUMENT, Worlds::mixed, y -> y.addRecord(0, 1, key, 1));
            refused("4 addRecord(0, 1, 1, " + key + ")", ARGUMENT, Worlds::mixed, y -> y.addRecord(0, 1, 1, key));
            refused("4 addRecord(0, 1, 1, " + key + "), full", ARGUMENT, Worlds::full,
                    y -> y.addRecord(0, 1, 1, key));
        }
    }

    private static void setKey() {
        Assetmerge x = Worlds.mixed();
        Checks.due("5 setKey(0, 0, 99)", x.setKey(0, 0, 99), 1);
        Checks.due("5 setKey(0, 0, 0)", x.setKey(0, 0, 0), 99);
        Checks.due("5 setKey(0, 0, -1)", x.setKey(0, 0, -1), 0);
        Checks.due("5 setKey(0, 1, 11)", x.setKey(0, 1, 11), 10);
        Checks.due("5 setKey(0, 2, 12)", x.setKey(0, 2, 12), -1);
        Checks.due("5 key(0, 0)", x.key(0, 0), -1);
        Checks.due("5 key(0, 1)", x.key(0, 1), 11);
        Checks.due("5 key(0, 2)", x.key(0, 2), 12);
        Checks.due("5 key(1, 0)", x.key(1, 0), 1);
        Checks.due("5 seen(0)", x.seen(0), 0);
        Checks.due("5 thing(1)", x.thing(1), 1);
        for (int record : NO_RECORDS) {
            refused("5 setKey(" + record + ", 0, 1)", INDEX, Worlds::mixed, y -> y.setKey(record, 0, 1));
            refused("5 setKey(" + record + ", 0, 100)", INDEX, Worlds::mixed, y -> y.setKey(record, 0, 100));
        }
        for (int kind : NO_KINDS) {
            refused("5 setKey(0, " + kind + ", 1)", INDEX, Worlds::mixed, y -> y.setKey(0, kind, 1));
            refused("5 setKey(0, " + kind + ", 100)", INDEX, Worlds::mixed, y -> y.setKey(0, kind, 100));
        }
        for (int key : NO_KEYS) {
            for (int k = 0; k < 3; k++) {
                int kind = k;
                refused("5 setKey(0, " + k + ", " + key + ")", ARGUMENT, Worlds::mixed, y -> y.setKey(0, kind, key));
            }
        }
    }

    private static void setFact() {
        Assetmerge x = Worlds.mixed();
        Checks.due("6 setFact(0, 0, 999)", x.setFact(0, 0, 999), 100);
        Checks.due("6 setFact(0, 0, 0)", x.setFact(0, 0, 0), 999);
        Checks.due("6 setFact(0, 0, -1)", x.setFact(0, 0, -1), 0);
        Checks.due("6 setFact(0, 0, 1)", x.setFact(0, 0, 1), -1);
        Checks.due("6 setFact(0, 1, 2)", x.setFact(0, 1, 2), -1);
        Checks.due("6 setFact(0, 2, 3)", x.setFact(0, 2, 3), -1);
        Checks.due("6 setFact(1, 0, 4)", x.setFact(1, 0, 4), 200);
        Checks.due("6 seen(0)", x.seen(0), 0);
        for (int record : NO_RECORDS) {
            refused("6 setFact(" + record + ", 0, 1)", INDEX, Worlds::mixed, y -> y.setFact(record, 0, 1));
            refused("6 setFact(" + record + ", 0, 1000)", INDEX, Worlds::mixed, y -> y.setFact(record, 0, 1000));
        }
        for (int field : NO_KINDS) {
            refused("6 setFact(0, " + field + ", 1)", INDEX, Worlds::mixed, y -> y.setFact(0, field, 1));
            refused("6 setFact(0, " + field + ", 1000)", INDEX, Worlds::mixed, y -> y.setFact(0, field, 1000));
        }
        for (int fact : new int[] {-2, 1000, Integer.MIN_VALUE, Integer.MAX_VALUE}) {
            refused("6 setFact(0, 1, " + fact + ")", ARGUMENT, Worlds::mixed, y -> y.setFact(0, 1, fact));
        }
    }

    private static void see() {
        Assetmerge x = Worlds.mixed();
        Checks.due("7 see(0)", x.see(0), 0);
        Checks.due("7 seen(0)", x.seen(0), 20);
        Checks.due("7 seen(1)", x.seen(1), 0);
        Checks.due("7 see(0) again", x.see(0), 20);
        x.pass(3);
        Checks.due("7 see(4)", x.see(4), 20);
        Checks.due("7 seen(4)", x.seen(4), 23);
        for (int record : NO_RECORDS) {
            refused("7 see(" + record + ")", INDEX, Worlds::mixed, y -> y.see(record));
        }
    }

    private static void drop() {
        Assetmerge x = Worlds.mixed();
        Checks.due("8 drop(0)", x.drop(0), 4);
        Checks.due("8 thing(1) behind drop(0)", x.thing(1), 1);
        Checks.due("8 things() behind drop(0)", x.things(), 3);
        Checks.due("8 drop(5)", x.drop(5), 3);
        Checks.due("8 drop(1)", x.drop(1), 2);
        Checks.due("8 drop(2)", x.drop(2), 1);
        Checks.due("8 drop(4)", x.drop(4), 0);
        Checks.due("8 things() without records", x.things(), 0);
        for (int record : NO_RECORDS) {
            refused("8 drop(" + record + ")", INDEX, Worlds::mixed, y -> y.drop(record));
        }
        Assetmerge full = Worlds.full();
        Checks.due("8 drop(0) of 23", full.drop(0), 22);
    }

    private static void forbid() {
        Assetmerge x = Worlds.mixed();
        Checks.due("9 forbid(0, 1): the pair of the dropped record left out", x.forbid(0, 1), 2);
        Checks.due("9 things() behind forbid(0, 1)", x.things(), 4);
        Checks.due("9 forbid(5, 4)", x.forbid(5, 4), 3);
        Checks.due("9 things() behind forbid(5, 4)", x.things(), 5);
        Assetmerge full = Worlds.full();
        for (int i = 1; i <= 12; i++) {
            Checks.due("9 forbid(22, " + i + ")", full.forbid(22, i), i);
        }
        Checks.due("9 allow(5, 22)", full.allow(5, 22), 11);
        Checks.due("9 forbid(21, 20) behind allow", full.forbid(21, 20), 12);
    }

    private static void forbidRefuses() {
        for (int record : NO_RECORDS) {
            refused("9 forbid(" + record + ", 0)", INDEX, Worlds::mixed, y -> y.forbid(record, 0));
            refused("9 forbid(0, " + record + ")", INDEX, Worlds::mixed, y -> y.forbid(0, record));
            refused("9 forbid(" + record + ", same)", INDEX, Worlds::mixed, y -> y.forbid(record, record));
        }
        refused("9 forbid(1, 3), forbidden and dropped", INDEX, Worlds::mixed, y -> y.forbid(1, 3));
        refused("9 forbid(1, 1)", ARGUMENT, Worlds::mixed, y -> y.forbid(1, 1));
        refused("9 forbid(1, 1) with 12 pairs", ARGUMENT, Worlds::parted, y -> y.forbid(1, 1));
        refused("9 forbid(0, 2)", STATE, Worlds::mixed, y -> y.forbid(0, 2));
        refused("9 forbid(2, 0)", STATE, Worlds::mixed, y -> y.forbid(2, 0));
        refused("9 forbid(13, 14), a 13th pair", STATE, Worlds::parted, y -> y.forbid(13, 14));
        refused("9 forbid(0, 11) with 12 pairs", STATE, Worlds::parted, y -> y.forbid(0, 11));
    }

    private static void allow() {
        Assetmerge x = Worlds.mixed();
        x.forbid(4, 5);
        Checks.due("10 allow(5, 4)", x.allow(5, 4), 1);
        Checks.due("10 thing(5) behind allow(5, 4)", x.thing(5), 4);
        Checks.due("10 allow(0, 2)", x.allow(0, 2), 0);
        Checks.due("10 thing(2) behind allow(0, 2)", x.thing(2), 0);
        Checks.due("10 forbid(0, 2) behind allow(0, 2)", x.forbid(0, 2), 1);
        Assetmerge parted = Worlds.parted();
        Checks.due("10 allow(1, 0) of 11", parted.allow(1, 0), 10);
        for (int record : NO_RECORDS) {
            refused("10 allow(" + record + ", 0)", INDEX, Worlds::mixed, y -> y.allow(record, 0));
            refused("10 allow(0, " + record + ")", INDEX, Worlds::mixed, y -> y.allow(0, record));
        }
        refused("10 allow(1, 3), forbidden and dropped", INDEX, Worlds::mixed, y -> y.allow(1, 3));
        refused("10 allow(0, 1)", ELEMENT, Worlds::mixed, y -> y.allow(0, 1));
        refused("10 allow(0, 0)", ELEMENT, Worlds::mixed, y -> y.allow(0, 0));
    }

    private static void countsRecords() {
        Checks.due("11 records()", Worlds.mixed().records(), 5);
        Checks.due("11 records(), full", Worlds.full().records(), 23);
    }

    private static void tellsKey() {
        int[][] due = {{1, 10, -1}, {1, -1, 20}, {-1, 10, -1}, null, {3, -1, 30}, {-1, -1, 30}};
        Assetmerge x = Worlds.mixed();
        for (int record = 0; record < due.length; record++) {
            for (int kind = 0; kind < 3 && due[record] != null; kind++) {
                Checks.due("12 key(" + record + ", " + kind + ")", x.key(record, kind), due[record][kind]);
            }
        }
        for (int record : NO_RECORDS) {
            refused("12 key(" + record + ", 0)", INDEX, Worlds::mixed, y -> y.key(record, 0));
        }
        for (int kind : NO_KINDS) {
            refused("12 key(0, " + kind + ")", INDEX, Worlds::mixed, y -> y.key(0, kind));
        }
    }

    private static void tellsSeen() {
        Assetmerge x = Worlds.mixed();
        Checks.due("13 seen(0)", x.seen(0), 0);
        Checks.due("13 seen(4)", x.seen(4), 20);
        for (int record : NO_RECORDS) {
            refused("13 seen(" + record + ")", INDEX, Worlds::mixed, y -> y.seen(record));
        }
    }

    private static void pass() {
        Assetmerge x = Worlds.withSources(1);
        Checks.due("35 pass(1)", x.pass(1), 1);
        for (int i = 1; i <= 10; i++) {
            Checks.due("35 pass(99)", x.pass(99), 1 + 99 * i);
        }
        Checks.due("35 pass(8)", x.pass(8), 999);
        for (int days : new int[] {0, -1, 100, Integer.MIN_VALUE, Integer.MAX_VALUE}) {
            refused("35 pass(" + days + ")", ARGUMENT, Worlds::mixed, y -> y.pass(days));
        }
        refused("35 pass(1) on the day 999", ARGUMENT, () -> onDay999(), y -> y.pass(1));
        refused("35 pass(99) on the day 999", ARGUMENT, () -> onDay999(), y -> y.pass(99));
        Assetmerge late = new Assetmerge();
        for (int i = 0; i < 10; i++) {
            late.pass(99);
        }
        Checks.due("35 pass(9) on the day 990", late.pass(9), 999);
        Checks.due("35 addRecord on the day 999", Worlds.mixed().addRecord(0, 1, 1, 1), 6);
    }

    private static Assetmerge onDay999() {
        Assetmerge x = Worlds.withKeys(Worlds.keys(1, 2, 3));
        for (int i = 0; i < 27; i++) {
            x.pass(37);
        }
        return x;
    }

    private static void today() {
        Checks.due("36 today()", Worlds.mixed().today(), 20);
        Checks.due("36 today(), the last one", onDay999().today(), 999);
    }
}
