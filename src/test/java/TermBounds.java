/** The bounds that the sentences ahead of the promises name: 'What it is' and 'Terms'. */
final class TermBounds extends Bounds {
    private static final int AHEAD = Sentences.AHEAD;

    TermBounds(Sentences sentences) {
        super(sentences);
    }

    @Override
    void run() {
        lastCall();
        sources();
        recordNumbers();
        recordRanges();
        strongestKind();
        droppedCountsNoMore();
        droppedTellsNoMore();
        threeSteps();
        eachByItself();
        links();
        clusters();
        strongerKeys();
        strongerKeysOfAll();
        forbiddenPairs();
        groupsStay();
        behindTheThirdStep();
        lowestNumber();
        weight();
        factOrder();
        ghost();
        days();
        addedToday();
    }

    private void lastCall() {
        sentence(AHEAD, "An object is used for at most 512 calls after it has been made");
        Assetmerge x = new Assetmerge();
        x.addSource(5);
        for (int i = 0; i < 24; i++) {
            x.addRecord(0, i / 2, -1, -1);
        }
        for (int call = 26; call < 512; call++) {
            if (call % 4 < 2) {
                due("the call " + call, x.setKey(23, 0, call % 4 == 0 ? 98 : 11), call % 4 == 0 ? 11 : 98);
            } else {
                due("the call " + call, x.things(), 12);
            }
        }
        due("the call 512", x.thing(23), 22);
        Assetmerge refusing = new Assetmerge();
        for (int call = 1; call < 512; call++) {
            Checks.thrown(() -> refusing.addRecord(0, 1, 1, 1));
        }
        due("the call 512 behind refused ones", refusing.addSource(9), 0);
    }

    private void sources() {
        sentence(AHEAD, "At most 4 sources have the numbers 0 to n - 1 in the order in which they were added; "
                + "a source has a trust from 1 to 9.");
        Assetmerge x = new Assetmerge();
        int[] trusts = {9, 1, 1, 9};
        for (int i = 0; i < 4; i++) {
            due("addSource, the source " + i, x.addSource(trusts[i]), i);
        }
        for (int i = 0; i < 4; i++) {
            due("addRecord of the source " + i, x.addRecord(i, -1, -1, -1), i);
            due("weight of the source " + i, x.weight(i), trusts[i]);
        }
        refused("a fifth addSource", STATE, () -> Worlds.withSources(4), y -> y.addSource(1));
        range("addSource", 1, 9, () -> Worlds.withSources(3), Assetmerge::addSource);
        range("setTrust(3)", 1, 9, Worlds::brimful, (y, trust) -> y.setTrust(3, trust));
    }

    private void recordNumbers() {
        sentence(AHEAD, "At most 24 records, dropped ones included, have the numbers 0 to n - 1 in the order in which "
                + "they were added.");
        Assetmerge x = Worlds.withSources(1);
        for (int i = 0; i < 24; i++) {
            due("addRecord, the record " + i, x.addRecord(0, -1, i, -1), i);
            if (i < 12) {
                due("drop(" + i + ")", x.drop(i), 0);
            }
        }
        for (int i = 12; i < 24; i++) {
            due("key(" + i + ", 1)", x.key(i, 1), i);
        }
        refused("a 25th addRecord", STATE, Worlds::brimful, y -> y.addRecord(0, 1, 1, 1));
        refused("a 25th addRecord, one dropped", STATE, Worlds::full, y -> y.addRecord(0, 1, 1, 1));
        refused("a 25th addRecord, all dropped", STATE, Worlds::emptied, y -> y.addRecord(0, 1, 1, 1));
    }

    private void recordRanges() {
        sentence(AHEAD, "A record has a source and the day on which it was seen last, for each of the kinds 0, 1 and 2 "
                + "a key from 0 to 99 or none, and for each of the fields 0, 1 and 2 a fact from 0 to 999 or none.");
        for (int i = 0; i < 3; i++) {
            int kind = i;
            int field = i;
            Assetmerge x = Worlds.mixed();
            for (int value : new int[] {99, 0, -1}) {
                x.setKey(0, kind, value);
                due("key(0, " + kind + ")", x.key(0, kind), value);
            }
            for (int value : new int[] {999, 0, -1, -1}) {
                int before = x.setFact(0, field, value);
                due("setFact(0, " + field + ", " + before + ") behind it", x.setFact(0, field, before), value);
                x.setFact(0, field, value);
            }
            range("setKey(0, " + i + ")", -1, 99, Worlds::mixed, (y, key) -> y.setKey(0, kind, key));
            range("setFact(0, " + i + ")", -1, 999, Worlds::mixed, (y, fact) -> y.setFact(0, field, fact));
        }
        threeOf("setKey for the kind", Worlds::mixed, (y, kind) -> y.setKey(0, kind, 1));
        threeOf("setFact for the field", Worlds::mixed, (y, field) -> y.setFact(0, field, 1));
    }

    private void strongestKind() {
        sentence(AHEAD, "The kind 0 is the strongest one, and the kind 2 the weakest one.");
        int[][] orders = {{0, 1}, {0, 2}, {1, 2}};
        for (int[] order : orders) {
            String kinds = "the kinds " + order[0] + " and " + order[1];
            thingsDue("the stronger one parts, " + kinds,
                    Worlds.withKeys(twoKeys(order[0], 1, order[1], 5), twoKeys(order[0], 2, order[1], 5)), 0, 1);
            thingsDue("the weaker one does not part, " + kinds,
                    Worlds.withKeys(twoKeys(order[0], 5, order[1], 1), twoKeys(order[0], 5, order[1], 2)), 0, 0);
        }
    }

    private static int[] twoKeys(int kind, int key, int otherKind, int otherKey) {
        int[] row = keys(-1, -1, -1);
        row[kind] = key;
        row[otherKind] = otherKey;
        return row;
    }

    private void droppedCountsNoMore() {
        sentence(AHEAD, "A dropped record does not count any more.");
        Assetmerge chain = Worlds.withKeys(keys(1, -1, -1), keys(1, 5, -1), keys(-1, 5, 6), keys(-1, -1, 6));
        chain.drop(1);
        due("records()", chain.records(), 3);
        thingsDue("a link is dropped", chain, 0, -1, 2, 2);
        due("size(2)", chain.size(2), 2);
        due("member(2, 0)", chain.member(2, 0), 2);
        due("mark()", chain.mark(), (0L + 1) + (4L * 5 + 1));
        Assetmerge bar = Worlds.withKeys(keys(1, 5, -1), keys(2, 5, -1), keys(-1, 5, -1));
        due("shared(1) ahead of drop", bar.shared(1), 1);
        bar.drop(1);
        thingsDue("a bar is dropped", bar, 0, -1, 0);
        due("shared(1)", bar.shared(1), 0);
        Assetmerge pair = Worlds.withKeys(keys(1, -1, -1), keys(1, -1, -1), keys(1, -1, -1));
        pair.forbid(0, 1);
        pair.drop(1);
        thingsDue("one of a pair is dropped", pair, 0, -1, 0);
        due("thingsWithout(2)", pair.thingsWithout(2), 1);
        due("thingsIf(2, 0, 3)", pair.thingsIf(2, 0, 3), 2);
        due("forbid(0, 2), the other pair left out", pair.forbid(0, 2), 1);
        due("thingsIfAllowed(0, 2)", pair.thingsIfAllowed(0, 2), 1);
    }

    private void droppedTellsNoMore() {
        Assetmerge x = Worlds.oneThing(5, 9, 5);
        x.setFact(2, 0, 10);
        due("agreement(0, 0) ahead of drop", x.agreement(0, 0), 1.0f / 3.0f);
        x.drop(1);
        factDue("the record that told it is dropped", x, 0, 0, 2, 10);
        due("agreement(0, 0)", x.agreement(0, 0), 1.0f);
        x.pass(31);
        x.see(0);
        due("isGhost(2)", x.isGhost(2), false);
        due("ghosts()", x.ghosts(), 0);
        nextGhostDue("a record that was seen", x, 62);
        x.drop(0);
        due("isGhost(2), the record that was seen is dropped", x.isGhost(2), true);
        due("ghosts(), the record that was seen is dropped", x.ghosts(), 1);
        nextGhostDue("the record that was seen is dropped", x, -1);
        x.drop(2);
        due("ghosts(), all dropped", x.ghosts(), 0);
        due("mark(), all dropped", x.mark(), 0L);
        due("things(), all dropped", x.things(), 0);
    }

    private void threeSteps() {
        sentence(AHEAD, "Things are found in three steps, for the kinds 0, 1 and 2 in this order.");
        int[][] orders = {{0, 1}, {0, 2}, {1, 2}};
        for (int[] order : orders) {
            int[] first = keys(-1, -1, -1);
            int[] last = keys(-1, -1, -1);
            first[order[0]] = 5;
            last[order[1]] = 6;
            // The one in the middle belongs to whom the earlier step gives it.
            Assetmerge x = Worlds.withKeys(last, twoKeys(order[0], 5, order[1], 6), first);
            x.forbid(0, 2);
            thingsDue("the kinds " + order[0] + " and " + order[1], x, 0, 1, 1);
            due("step(1, 2)", x.step(1, 2), order[0]);
        }
        Assetmerge all = Worlds.withKeys(keys(1, -1, -1), keys(1, 2, -1), keys(-1, 2, 3), keys(-1, -1, 3));
        thingsDue("all three steps", all, 0, 0, 0, 0);
    }

    private void eachByItself() {
        sentence(AHEAD, "Ahead of the first step, each record is a group by itself.");
        thingsDue("one record", Worlds.withKeys(keys(-1, -1, -1)), 0);
        thingsDue("two records", Worlds.withKeys(keys(-1, -1, -1), keys(-1, -1, -1)), 0, 1);
        int[] due = new int[24];
        for (int i = 0; i < 24; i++) {
            due[i] = i == 23 ? -1 : i;
        }
        thingsDue("records without keys", Worlds.full(), due);
    }

    private void links() {
        sentence(AHEAD, "In the step for a kind, two groups are linked if a record of the one and a record of the other "
                + "one have the same key of this kind.");
        for (int kind = 0; kind < 3; kind++) {
            for (int key : new int[] {0, 99}) {
                int[] row = keys(-1, -1, -1);
                row[kind] = key;
                thingsDue("the key " + key + " of the kind " + kind, Worlds.withKeys(row, row), 0, 0);
                int[] other = row.clone();
                other[kind] = key == 0 ? 1 : 98;
                thingsDue("the key next to " + key + " of the kind " + kind, Worlds.withKeys(row, other), 0, 1);
                other[kind] = -1;
                thingsDue("the key " + key + " of the kind " + kind + " and none", Worlds.withKeys(row, other), 0, 1);
                other[(kind + 1) % 3] = key;
                thingsDue("the same key of another kind", Worlds.withKeys(row, other), 0, 1);
            }
        }
    }

    private void clusters() {
        sentence(AHEAD, "All groups that are linked to one another, directly or over other groups, make a cluster.");
        thingsDue("over a group of two records",
                Worlds.withKeys(keys(-1, 10, -1), keys(-1, 11, -1), keys(1, 10, -1), keys(1, 11, -1)), 0, 0, 0, 0);
        thingsDue("over a group of two records, weak step",
                Worlds.withKeys(keys(-1, -1, 10), keys(-1, -1, 11), keys(1, -1, 11), keys(1, -1, 10)), 0, 0, 0, 0);
        due("24 records with one key", Worlds.oneOf24().size(23), 24);
        for (boolean falling : new boolean[] {false, true}) {
            // Strong keys two by two, and middle keys between them: one cluster, and too many strong keys in it.
            Assetmerge chain = Worlds.withSources(1);
            for (int i = 0; i < 24; i++) {
                int place = falling ? 23 - i : i;
                chain.addRecord(0, (place + 1) / 2, place / 2, -1);
            }
            due("things() of a chain of 24", chain.things(), 13);
            for (int i = 0; i < 24; i++) {
                due("thingByRounds(" + i + ") of the chain", chain.thingByRounds(i), chain.thing(i));
            }
        }
        Assetmerge star = Worlds.withSources(1);
        for (int i = 0; i < 24; i++) {
            star.addRecord(0, i < 12 ? 1 : -1, i % 12, -1);
        }
        due("size(23) of a star", star.size(23), 24);
        due("thingByRounds(23) of a star", star.thingByRounds(23), 0);
    }

    private void strongerKeys() {
        sentence(AHEAD, "The groups of a cluster are joined to one group if all records of the cluster together have at "
                + "most one key of each kind that is stronger than the kind of the step, and no two of its records are "
                + "forbidden to be together; otherwise, its groups stay as they are in this step.");
        int[][] orders = {{0, 1}, {0, 2}, {1, 2}};
        int[] bounds = {0, 99};
        for (int[] order : orders) {
            String kinds = ", the kinds " + order[0] + " and " + order[1];
            for (int key : bounds) {
                int[] with = twoKeys(order[0], key, order[1], 5);
                int[] without = twoKeys(order[0], -1, order[1], 5);
                int[] next = twoKeys(order[0], key == 0 ? 1 : 98, order[1], 5);
                thingsDue("no stronger key" + kinds, Worlds.withKeys(without, without, without), 0, 0, 0);
                thingsDue("one stronger key " + key + kinds, Worlds.withKeys(without, with, without), 0, 0, 0);
                thingsDue("twice the one stronger key " + key + kinds, Worlds.withKeys(with, without, with), 0, 0, 0);
                thingsDue("two stronger keys, " + key + kinds, Worlds.withKeys(with, without, next), 0, 1, 2);
            }
        }
    }

    private void strongerKeysOfAll() {
        thingsDue("the second key comes first", Worlds.withKeys(keys(0, 5, -1), keys(-1, 5, -1), keys(99, 5, -1)),
                0, 1, 2);
        thingsDue("both stronger kinds once, weak step",
                Worlds.withKeys(keys(1, -1, 5), keys(-1, 2, 5), keys(-1, -1, 5)), 0, 0, 0);
        thingsDue("a key of each record of a group counts, weak step",
                Worlds.withKeys(keys(1, -1, -1), keys(1, 7, 5), keys(-1, 8, 5)), 0, 0, 2);
        thingsDue("a group with two middle keys is joined to none, weak step",
                Worlds.withKeys(keys(1, 7, -1), keys(1, 8, 5), keys(-1, -1, 5)), 0, 0, 2);
        thingsDue("two weak keys part none",
                Worlds.withKeys(keys(1, 2, 3), keys(1, 2, 4), keys(-1, 2, 5)), 0, 0, 0);
        thingsDue("one cluster stays, another is joined",
                Worlds.withKeys(keys(1, 5, -1), keys(2, 5, -1), keys(1, 6, -1), keys(-1, 6, -1), keys(-1, 7, -1),
                        keys(3, 7, -1)), 0, 1, 0, 3, 4, 4);
    }

    private void forbiddenPairs() {
        for (int kind = 0; kind < 3; kind++) {
            int[] row = keys(-1, -1, -1);
            row[kind] = 4;
            Assetmerge x = Worlds.withKeys(row, row, row, keys(-1, -1, -1));
            x.forbid(3, 0);
            thingsDue("a pair with one outside, step " + kind, x, 0, 0, 0, 3);
            x.forbid(2, 1);
            thingsDue("one pair inside, step " + kind, x, 0, 1, 2, 3);
            x.forbid(0, 1);
            x.allow(1, 2);
            thingsDue("another pair inside, step " + kind, x, 0, 1, 2, 3);
            x.allow(0, 1);
            thingsDue("no pair inside, step " + kind, x, 0, 0, 0, 3);
        }
        Assetmerge far = Worlds.oneOf24();
        far.forbid(23, 0);
        due("things() of 24, the first and the last one forbidden", far.things(), 24);
    }

    private void groupsStay() {
        Assetmerge stays = Worlds.withKeys(keys(1, -1, -1), keys(1, 5, -1), keys(2, 5, -1), keys(2, -1, -1),
                keys(-1, 5, -1));
        thingsDue("groups of the step before stay", stays, 0, 0, 2, 2, 4);
        Assetmerge later = Worlds.withKeys(keys(1, 5, 7), keys(-1, 5, 7), keys(2, 5, -1));
        thingsDue("what stayed in one step is joined in the next one", later, 0, 0, 2);
        due("step(0, 1), stayed in the middle step", later.step(0, 1), 2);
    }

    private void behindTheThirdStep() {
        sentence(AHEAD, "The groups behind the third step are the things.");
        Assetmerge x = Worlds.withKeys(keys(-1, -1, 9), keys(-1, -1, 9), keys(-1, 8, -1), keys(-1, 8, -1),
                keys(7, -1, -1), keys(7, -1, -1));
        thingsDue("a thing of each step", x, 0, 0, 2, 2, 4, 4);
        thingsDue("of an empty joiner", new Assetmerge());
        thingsDue("of a joiner with sources alone", Worlds.withSources(4));
    }

    private void lowestNumber() {
        sentence(AHEAD, "The number of a thing is the lowest number of its records.");
        Assetmerge x = Worlds.oneOf24();
        for (int low = 0; low < 23; low++) {
            due("thing(23), the lowest one is " + low, x.thing(23), low);
            due("thingByRounds(23), the lowest one is " + low, x.thingByRounds(23), low);
            due("thing(" + low + ")", x.thing(low), low);
            x.drop(low);
        }
        due("thing(23) alone", x.thing(23), 23);
        thingsDue("the last step finds the lowest one",
                Worlds.withKeys(keys(-1, -1, 3), keys(-1, 2, -1), keys(1, 2, -1), keys(1, -1, 3)), 0, 0, 0, 0);
    }

    private void weight() {
        sentence(AHEAD, "The weight of a record is the trust of its source minus 1 for each 10 whole days that have "
                + "passed since it was seen last.");
        int[] days = {0, 9, 10, 19, 20, 99, 100, 989, 990, 999};
        int[] due = {5, 5, 4, 4, 3, -4, -5, -93, -94, -94};
        for (int i = 0; i < days.length; i++) {
            due("weight(0) on the day " + days[i], Worlds.onDay(days[i]).weight(0), due[i]);
        }
        Assetmerge x = Worlds.onDay(7);
        x.see(0);
        x.pass(9);
        due("weight(0), seen 9 days ago", x.weight(0), 5);
        x.pass(1);
        due("weight(0), seen 10 days ago", x.weight(0), 4);
        x.setTrust(0, 9);
        due("weight(0), the trust 9", x.weight(0), 8);
        x.setTrust(0, 1);
        due("weight(0), the trust 1", x.weight(0), 0);
    }

    private void factOrder() {
        sentence(AHEAD, "The fact of a thing for a field is that of the first one of its records that have a fact for "
                + "the field, by falling weight, with the same weight by falling days on which they were seen last, and "
                + "with the same day by falling numbers.");
        factDue("the weights 5, 6 and 5", Worlds.oneThing(5, 6, 5), 0, 0, 1, 11);
        factDue("the same weights and days", Worlds.oneThing(5, 5, 5), 0, 0, 2, 12);
        Assetmerge x = Worlds.oneThing(6, 5);
        x.pass(9);
        x.see(1);
        factDue("more weight, 9 days older", x, 1, 0, 0, 10);
        x.pass(1);
        factDue("the same weight, 9 days older", x, 0, 0, 1, 11);
        x.see(0);
        x.setTrust(0, 5);
        factDue("the same weight, 1 day newer", x, 1, 0, 0, 10);
        x.see(1);
        factDue("the same weight and day", x, 0, 0, 1, 11);
        x.setFact(1, 0, -1);
        factDue("the first one has none", x, 1, 0, 0, 10);
        x.setFact(1, 0, 0);
        factDue("the first one has the fact 0", x, 0, 0, 1, 0);
        Assetmerge all = Worlds.oneOf24();
        all.setFact(0, 2, 999);
        factDue("the last one of 24 by number alone has a fact", all, 23, 2, 0, 999);
    }

    private void ghost() {
        sentence(AHEAD, "A thing is a ghost if each of its records was seen last more days ago than the limit, which is "
                + "30 at first.");
        due("isGhost(0), 30 days ago", Worlds.onDay(30).isGhost(0), false);
        due("ghosts(), 30 days ago", Worlds.onDay(30).ghosts(), 0);
        due("isGhost(0), 31 days ago", Worlds.onDay(31).isGhost(0), true);
        due("ghosts(), 31 days ago", Worlds.onDay(31).ghosts(), 1);
        for (int limit : new int[] {1, 99}) {
            Assetmerge x = Worlds.onDay(limit);
            x.setLimit(limit);
            due("isGhost(0), as many days ago as the limit " + limit, x.isGhost(0), false);
            x.pass(1);
            due("isGhost(0), a day more than the limit " + limit, x.isGhost(0), true);
        }
        Assetmerge each = Worlds.oneOf24();
        each.pass(1);
        each.see(23);
        each.pass(30);
        due("isGhost(0), all but one of 24 seen 31 days ago", each.isGhost(0), false);
        each.drop(23);
        due("isGhost(0), each of 23 seen 31 days ago", each.isGhost(0), true);
        due("ghosts(), one thing of 23 records", each.ghosts(), 1);
    }

    private void days() {
        sentence(AHEAD, "Days have the numbers 0 to 999; today is the day 0 at first.");
        due("today() at first", new Assetmerge().today(), 0);
        due("today(), the last day", Worlds.onDay(999).today(), 999);
        refused("pass(1) on the last day", ARGUMENT, () -> Worlds.onDay(999), x -> x.pass(1));
        nextGhostDue("on the last day", Worlds.onDay(999), -1);
    }

    private void addedToday() {
        sentence(AHEAD, "A record is seen on the day on which it is added.");
        for (int day : new int[] {0, 1, 998, 999}) {
            Assetmerge x = Worlds.onDay(day);
            int record = x.addRecord(0, -1, -1, -1);
            due("seen on the day " + day, x.seen(record), day);
            due("weight on the day " + day, x.weight(record), 5);
            due("isGhost on the day " + day, x.isGhost(record), false);
        }
    }
}
