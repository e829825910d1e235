import java.util.NoSuchElementException;

/** Promises 14 to 24 and 37: things and their mark. */
public final class ThingsTest {
    private static final Class<IndexOutOfBoundsException> INDEX = IndexOutOfBoundsException.class;
    private static final Class<IllegalArgumentException> ARGUMENT = IllegalArgumentException.class;
    private static final Class<NoSuchElementException> ELEMENT = NoSuchElementException.class;
    private static final int[] NO_RECORDS = {-1, 3, 6, 24, 32, 33, Integer.MIN_VALUE, Integer.MAX_VALUE};
    private static final int[] NO_KINDS = {-1, 3, Integer.MIN_VALUE, Integer.MAX_VALUE};

    public static void main(String[] args) {
        equalKeysJoin();
        strongerKeysPart();
        wholeClustersStay();
        forbiddenPairsPart();
        longChains();
        ordersMakeNoDifference();
        thingRefuses();
        things();
        size();
        member();
        areTogether();
        step();
        shared();
        thingsWithout();
        thingsIf();
        thingsIfAllowed();
        mark();
        Checks.end();
    }

    private static int[] keys(int strong, int middle, int weak) {
        return Worlds.keys(strong, middle, weak);
    }

    /** Both ways to find things answer these numbers, record by record; -1 for a dropped one. */
    private static void thingsDue(String what, Assetmerge x, int... due) {
        int count = 0;
        for (int record = 0; record < due.length; record++) {
            if (due[record] >= 0) {
                Checks.due("14 thing(" + record + "), " + what, x.thing(record), due[record]);
                Checks.due("15 thingByRounds(" + record + "), " + what, x.thingByRounds(record), due[record]);
                count += due[record] == record ? 1 : 0;
            }
        }
        Checks.due("16 things(), " + what, x.things(), count);
    }

    private static void equalKeysJoin() {
        thingsDue("no keys", Worlds.withKeys(keys(-1, -1, -1), keys(-1, -1, -1)), 0, 1);
        thingsDue("the same strong key", Worlds.withKeys(keys(0, 1, 1), keys(0, 2, 2)), 0, 0);
        thingsDue("the same middle key", Worlds.withKeys(keys(5, 99, 1), keys(-1, 99, 2)), 0, 0);
        thingsDue("the same weak key", Worlds.withKeys(keys(5, -1, 0), keys(-1, 3, 0)), 0, 0);
        thingsDue("equal keys of unequal kinds", Worlds.withKeys(keys(1, 2, 3), keys(2, 3, 1)), 0, 1);
        thingsDue("three kinds in a row",
                Worlds.withKeys(keys(-1, -1, 3), keys(-1, 2, 3), keys(1, 2, -1), keys(1, -1, -1)), 0, 0, 0, 0);
        thingsDue("two of four", Worlds.withKeys(keys(1, -1, -1), keys(2, -1, -1), keys(1, -1, -1), keys(2, -1, -1)),
                0, 1, 0, 1);
        Assetmerge dropped = Worlds.withKeys(keys(1, -1, -1), keys(1, 2, -1), keys(-1, 2, -1));
        thingsDue("ahead of the drop", dropped, 0, 0, 0);
        dropped.drop(1);
        thingsDue("the link dropped", dropped, 0, -1, 2);
        Assetmerge lowest = Worlds.withKeys(keys(1, -1, -1), keys(1, -1, -1), keys(1, -1, -1));
        lowest.drop(0);
        thingsDue("the lowest one dropped", lowest, -1, 1, 1);
    }

    private static void strongerKeysPart() {
        thingsDue("two strong keys, middle step", Worlds.withKeys(keys(1, 5, -1), keys(2, 5, -1)), 0, 1);
        thingsDue("two strong keys, weak step", Worlds.withKeys(keys(1, -1, 5), keys(2, -1, 5)), 0, 1);
        thingsDue("two middle keys, weak step", Worlds.withKeys(keys(-1, 1, 5), keys(-1, 2, 5)), 0, 1);
        thingsDue("two weak keys, middle step", Worlds.withKeys(keys(-1, 5, 1), keys(-1, 5, 2)), 0, 0);
        thingsDue("two middle keys, strong step", Worlds.withKeys(keys(5, 1, -1), keys(5, 2, -1)), 0, 0);
        thingsDue("the strong key 0 against 1", Worlds.withKeys(keys(0, 5, -1), keys(1, 5, -1)), 0, 1);
        thingsDue("the strong keys of all records of the groups",
                Worlds.withKeys(keys(1, -1, -1), keys(1, 5, -1), keys(2, -1, -1), keys(2, 6, -1), keys(-1, 5, 9),
                        keys(-1, 6, 9)), 0, 0, 2, 2, 0, 2);
        thingsDue("two middle keys in a strong group bar the weak step",
                Worlds.withKeys(keys(1, 1, 5), keys(1, 2, -1), keys(-1, -1, 5)), 0, 0, 2);
    }

    private static void wholeClustersStay() {
        thingsDue("one bad end parts all of a cluster",
                Worlds.withKeys(keys(1, 5, -1), keys(-1, 5, -1), keys(2, 5, -1)), 0, 1, 2);
        thingsDue("what the middle step left, the weak one joins",
                Worlds.withKeys(keys(1, 5, 7), keys(-1, 5, 7), keys(2, 5, -1)), 0, 0, 2);
        thingsDue("the one cluster stays, the other one is joined",
                Worlds.withKeys(keys(1, 5, -1), keys(2, 5, -1), keys(1, 6, -1), keys(3, 6, -1), keys(-1, 7, -1),
                        keys(4, 7, -1)), 0, 1, 0, 3, 4, 4);
    }

    private static void forbiddenPairsPart() {
        for (int kind = 0; kind < 3; kind++) {
            int[] row = keys(-1, -1, -1);
            row[kind] = 4;
            Assetmerge x = Worlds.withKeys(row, row, row, keys(-1, -1, -1));
            x.forbid(2, 0);
            thingsDue("forbidden in the step " + kind, x, 0, 1, 2, 3);
            x.allow(0, 2);
            thingsDue("allowed in the step " + kind, x, 0, 0, 0, 3);
            x.forbid(1, 3);
            thingsDue("forbidden with one outside, in the step " + kind, x, 0, 0, 0, 3);
            x.forbid(0, 1);
            x.drop(1);
            thingsDue("forbidden with a dropped one, in the step " + kind, x, 0, -1, 0, 3);
        }
        Assetmerge later = Worlds.withKeys(keys(1, 5, -1), keys(1, -1, -1), keys(1, 5, -1));
        later.forbid(1, 2);
        thingsDue("parted in the strong step, joined in the middle one", later, 0, 1, 0);
        Assetmerge over = Worlds.withKeys(keys(1, -1, -1), keys(1, 5, -1), keys(-1, 5, 6), keys(-1, -1, 6));
        over.forbid(3, 0);
        thingsDue("forbidden over other records", over, 0, 0, 0, 3);
    }

    /** All 24 are one cluster in the middle step, which has many strong keys: only its far ends tell all of it. */
    private static void longChains() {
        Assetmerge rising = Worlds.withSources(1);
        Assetmerge falling = Worlds.withSources(1);
        Assetmerge mixed = Worlds.withSources(1);
        for (int i = 0; i < 24; i++) {
            addLink(rising, i);
            addLink(falling, 23 - i);
            addLink(mixed, i * 7 % 24);
        }
        int[] due = new int[24];
        for (int i = 0; i < 24; i++) {
            due[i] = i == 23 ? 23 : (i + 1) / 2 * 2 - (i == 0 ? 0 : 1);
        }
        thingsDue("a chain of 24", rising, due);
        thingsDue("the same chain from its other end", falling, due);
        Checks.due("16 the same chain in another order", mixed.things(), 13);
        for (int i = 0; i < 24; i++) {
            Checks.due("15 the same chain in another order", mixed.thingByRounds(i), mixed.thing(i));
        }
        rising.drop(3);
        due[1] = 0;
        due[2] = 0;
        due[3] = -1;
        due[4] = 4;
        thingsDue("a broken chain", rising, due);
    }

    // The places 1 to 22 have a strong key two by two; a middle key links each second one to the next.
    private static void addLink(Assetmerge x, int place) {
        boolean end = place == 0 || place == 23;
        x.addRecord(0, end ? -1 : (place + 1) / 2, place / 2, -1);
    }

    private static void ordersMakeNoDifference() {
        int[][] rows = {keys(1, 5, -1), keys(-1, 5, 8), keys(2, 6, 8), keys(2, -1, -1)};
        int[][] orders = {{0, 1, 2, 3}, {3, 2, 1, 0}, {2, 0, 3, 1}, {1, 3, 0, 2}};
        for (int[] order : orders) {
            Assetmerge x = Worlds.withKeys(rows[order[0]], rows[order[1]], rows[order[2]], rows[order[3]]);
            int[] places = new int[4];
            for (int i = 0; i < 4; i++) {
                places[order[i]] = i;
            }
            Checks.due("14 the first two in any order", x.areTogether(places[0], places[1]), true);
            Checks.due("14 the last two in any order", x.areTogether(places[2], places[3]), true);
            Checks.due("14 the two things in any order", x.things(), 2);
            for (int i = 0; i < 4; i++) {
                Checks.due("15 in any order", x.thingByRounds(i), x.thing(i));
            }
        }
    }

    private static void thingRefuses() {
        thingsDue("mixed", Worlds.mixed(), 0, 0, 2, -1, 4, 4);
        for (int record : NO_RECORDS) {
            Checks.refused("14 thing(" + record + ")", INDEX, Worlds::mixed, y -> y.thing(record));
            Checks.refused("15 thingByRounds(" + record + ")", INDEX, Worlds::mixed, y -> y.thingByRounds(record));
        }
    }

    private static void things() {
        Checks.due("16 things(), mixed", Worlds.mixed().things(), 3);
        Checks.due("16 things(), full", Worlds.full().things(), 23);
    }

    private static void size() {
        Assetmerge x = Worlds.mixed();
        int[] due = {2, 2, 1, -1, 2, 2};
        for (int record = 0; record < due.length; record++) {
            if (due[record] > 0) {
                Checks.due("17 size(" + record + ")", x.size(record), due[record]);
            }
        }
        x.drop(0);
        Checks.due("17 size(1) behind drop(0)", x.size(1), 1);
        for (int record : NO_RECORDS) {
            Checks.refused("17 size(" + record + ")", INDEX, Worlds::mixed, y -> y.size(record));
        }
    }

    private static void member() {
        Assetmerge x = Worlds.withKeys(keys(9, -1, -1), keys(1, -1, -1), keys(8, -1, -1), keys(1, -1, -1),
                keys(1, -1, -1), keys(1, -1, -1));
        x.drop(3);
        int[] due = {1, 4, 5};
        for (int index = 0; index < due.length; index++) {
            Checks.due("18 member(5, " + index + ")", x.member(5, index), due[index]);
        }
        Checks.due("18 member(2, 0)", x.member(2, 0), 2);
        Checks.due("18 member(1, 0) of the thing 0", Worlds.mixed().member(1, 0), 0);
        Checks.due("18 member(0, 1) of the thing 0", Worlds.mixed().member(0, 1), 1);
        for (int record : NO_RECORDS) {
            Checks.refused("18 member(" + record + ", 0)", INDEX, Worlds::mixed, y -> y.member(record, 0));
            Checks.refused("18 member(" + record + ", 9)", INDEX, Worlds::mixed, y -> y.member(record, 9));
        }
        for (int index : new int[] {-1, 2, 24, Integer.MIN_VALUE, Integer.MAX_VALUE}) {
            Checks.refused("18 member(1, " + index + ")", ELEMENT, Worlds::mixed, y -> y.member(1, index));
        }
    }

    private static void areTogether() {
        Assetmerge x = Worlds.mixed();
        Checks.due("19 areTogether(0, 1)", x.areTogether(0, 1), true);
        Checks.due("19 areTogether(1, 0)", x.areTogether(1, 0), true);
        Checks.due("19 areTogether(5, 4)", x.areTogether(5, 4), true);
        Checks.due("19 areTogether(0, 2)", x.areTogether(0, 2), false);
        Checks.due("19 areTogether(1, 4)", x.areTogether(1, 4), false);
        Checks.due("19 areTogether(2, 2)", x.areTogether(2, 2), true);
        for (int record : NO_RECORDS) {
            Checks.refused("19 areTogether(" + record + ", 0)", INDEX, Worlds::mixed, y -> y.areTogether(record, 0));
            Checks.refused("19 areTogether(0, " + record + ")", INDEX, Worlds::mixed, y -> y.areTogether(0, record));
        }
    }

    private static void step() {
        Assetmerge x = Worlds.withKeys(keys(1, 5, 7), keys(1, 5, 7), keys(-1, 5, 7), keys(-1, -1, 7));
        Checks.due("20 step(0, 1)", x.step(0, 1), 0);
        Checks.due("20 step(2, 1)", x.step(2, 1), 1);
        Checks.due("20 step(0, 2)", x.step(0, 2), 1);
        Checks.due("20 step(2, 3)", x.step(2, 3), 2);
        Checks.due("20 step(3, 0)", x.step(3, 0), 2);
        Assetmerge over = Worlds.withKeys(keys(1, -1, -1), keys(1, 5, -1), keys(-1, 5, -1));
        Checks.due("20 step(0, 2), over 1", over.step(0, 2), 1);
        Assetmerge late = Worlds.withKeys(keys(-1, 5, 7), keys(-1, 5, 7), keys(1, 5, -1), keys(2, 5, -1));
        Checks.due("20 step(0, 1), the middle cluster stayed", late.step(0, 1), 2);
        for (int record : NO_RECORDS) {
            Checks.refused("20 step(" + record + ", 0)", INDEX, Worlds::mixed, y -> y.step(record, 0));
            Checks.refused("20 step(0, " + record + ")", INDEX, Worlds::mixed, y -> y.step(0, record));
            Checks.refused("20 step(" + record + ", same)", INDEX, Worlds::mixed, y -> y.step(record, record));
        }
        Checks.refused("20 step(1, 1)", ARGUMENT, Worlds::mixed, y -> y.step(1, 1));
        Checks.refused("20 step(0, 2)", ELEMENT, Worlds::mixed, y -> y.step(0, 2));
        Checks.refused("20 step(5, 0)", ELEMENT, Worlds::mixed, y -> y.step(5, 0));
    }

    private static void shared() {
        Assetmerge x = Worlds.mixed();
        Checks.due("21 shared(0)", x.shared(0), 0);
        Checks.due("21 shared(1)", x.shared(1), 1);
        Checks.due("21 shared(2)", x.shared(2), 0);
        x.drop(2);
        Checks.due("21 shared(1) behind drop(2)", x.shared(1), 0);
        Assetmerge many = Worlds.withKeys(keys(1, 0, 99), keys(2, 0, 99), keys(3, 0, 98), keys(1, 50, 98),
                keys(2, 50, -1), keys(4, -1, -1), keys(5, -1, -1));
        Checks.due("21 shared(0) of many", many.shared(0), 0);
        Checks.due("21 shared(1) of many", many.shared(1), 2);
        Checks.due("21 shared(2) of many", many.shared(2), 2);
        Assetmerge forbidden = Worlds.withKeys(keys(0, -1, -1), keys(0, -1, -1), keys(0, -1, -1));
        forbidden.forbid(0, 1);
        Checks.due("21 shared(0), forbidden", forbidden.shared(0), 1);
        for (int kind : NO_KINDS) {
            Checks.refused("21 shared(" + kind + ")", INDEX, Worlds::mixed, y -> y.shared(kind));
        }
    }

    private static void thingsWithout() {
        Assetmerge x = Worlds.mixed();
        int[] due = {3, 3, 2, -1, 3, 3};
        for (int record = 0; record < due.length; record++) {
            if (due[record] >= 0) {
                Checks.due("22 thingsWithout(" + record + ")", x.thingsWithout(record), due[record]);
            }
        }
        unchanged("22 thingsWithout(0)", x);
        Assetmerge chain = Worlds.withKeys(keys(1, -1, -1), keys(1, 5, -1), keys(-1, 5, 6), keys(-1, -1, 6));
        Checks.due("22 thingsWithout(1), a link", chain.thingsWithout(1), 2);
        Assetmerge bar = Worlds.withKeys(keys(1, 5, -1), keys(2, 5, -1), keys(-1, 5, -1), keys(-1, 5, -1));
        Checks.due("22 things(), barred", bar.things(), 4);
        Checks.due("22 thingsWithout(1), the bar", bar.thingsWithout(1), 1);
        Assetmerge parted = Worlds.withKeys(keys(1, -1, -1), keys(1, -1, -1), keys(1, -1, -1));
        parted.forbid(0, 1);
        Checks.due("22 thingsWithout(0), forbidden", parted.thingsWithout(0), 1);
        Checks.due("22 thingsWithout(2), forbidden", parted.thingsWithout(2), 2);
        for (int record : NO_RECORDS) {
            Checks.refused("22 thingsWithout(" + record + ")", INDEX, Worlds::mixed, y -> y.thingsWithout(record));
        }
    }

    private static void thingsIf() {
        Assetmerge x = Worlds.mixed();
        Checks.due("23 thingsIf(1, 0, 3)", x.thingsIf(1, 0, 3), 3);
        Checks.due("23 thingsIf(1, 0, 99)", x.thingsIf(1, 0, 99), 4);
        Checks.due("23 thingsIf(1, 0, -1)", x.thingsIf(1, 0, -1), 4);
        Checks.due("23 thingsIf(1, 0, 1), its own key", x.thingsIf(1, 0, 1), 3);
        Checks.due("23 thingsIf(2, 2, 30)", x.thingsIf(2, 2, 30), 2);
        Checks.due("23 thingsIf(5, 2, 0)", x.thingsIf(5, 2, 0), 4);
        Checks.due("23 thingsIf(2, 1, 11)", x.thingsIf(2, 1, 11), 3);
        unchanged("23 thingsIf", x);
        for (int record : NO_RECORDS) {
            Checks.refused("23 thingsIf(" + record + ", 0, 1)", INDEX, Worlds::mixed, y -> y.thingsIf(record, 0, 1));
            Checks.refused("23 thingsIf(" + record + ", 0, 100)", INDEX, Worlds::mixed,
                    y -> y.thingsIf(record, 0, 100));
        }
        for (int kind : NO_KINDS) {
            Checks.refused("23 thingsIf(0, " + kind + ", 1)", INDEX, Worlds::mixed, y -> y.thingsIf(0, kind, 1));
            Checks.refused("23 thingsIf(0, " + kind + ", 100)", INDEX, Worlds::mixed, y -> y.thingsIf(0, kind, 100));
        }
        for (int key : new int[] {-2, 100, Integer.MIN_VALUE, Integer.MAX_VALUE}) {
            Checks.refused("23 thingsIf(0, 1, " + key + ")", ARGUMENT, Worlds::mixed, y -> y.thingsIf(0, 1, key));
        }
    }

    private static void thingsIfAllowed() {
        Assetmerge x = Worlds.mixed();
        Checks.due("24 thingsIfAllowed(0, 2)", x.thingsIfAllowed(0, 2), 2);
        Checks.due("24 thingsIfAllowed(2, 0)", x.thingsIfAllowed(2, 0), 2);
        unchanged("24 thingsIfAllowed", x);
        Assetmerge two = Worlds.withKeys(keys(1, -1, -1), keys(1, -1, -1), keys(1, -1, -1));
        two.forbid(0, 1);
        two.forbid(1, 2);
        Checks.due("24 thingsIfAllowed(0, 1), the other pair bars", two.thingsIfAllowed(0, 1), 3);
        for (int record : NO_RECORDS) {
            Checks.refused("24 thingsIfAllowed(" + record + ", 0)", INDEX, Worlds::mixed,
                    y -> y.thingsIfAllowed(record, 0));
            Checks.refused("24 thingsIfAllowed(0, " + record + ")", INDEX, Worlds::mixed,
                    y -> y.thingsIfAllowed(0, record));
        }
        Checks.refused("24 thingsIfAllowed(1, 3)", INDEX, Worlds::mixed, y -> y.thingsIfAllowed(1, 3));
        Checks.refused("24 thingsIfAllowed(0, 1)", ELEMENT, Worlds::mixed, y -> y.thingsIfAllowed(0, 1));
        Checks.refused("24 thingsIfAllowed(2, 2)", ELEMENT, Worlds::mixed, y -> y.thingsIfAllowed(2, 2));
    }

    private static void unchanged(String what, Assetmerge mixed) {
        Checks.due(what + " changes no thing", Probe.THINGS.tell(mixed), Probe.THINGS.tell(Worlds.mixed()));
        Checks.due(what + " changes no pair", Probe.PAIRS.tell(mixed), Probe.PAIRS.tell(Worlds.mixed()));
        Checks.due(what + " changes no record", Probe.RECORDS.tell(mixed), Probe.RECORDS.tell(Worlds.mixed()));
    }

    private static void mark() {
        Checks.due("37 mark(), mixed", Worlds.mixed().mark(), (4L * 1 + 1) + (1L * 2 + 1) + (4L * 9 + 1));
        Checks.due("37 mark(), one record", Worlds.withKeys(keys(1, 1, 1)).mark(), 1L);
        Checks.due("37 mark(), 23 things", Worlds.full().mark(), 253L + 23L);
        Assetmerge all = Worlds.oneOf24();
        Checks.due("37 mark(), one thing of 24", all.mark(), 576L * 276L + 1L);
        all.drop(10);
        Checks.due("37 mark(), one thing of 23", all.mark(), 529L * 266L + 1L);
    }
}
