import java.util.function.ObjIntConsumer;

/** The bounds that the promises 25 to 36 name: facts and ghosts, and days. */
final class FactBounds extends Bounds {
    private static final String NO_RECORD =
            "Throws `IndexOutOfBoundsException` if there is no such record, or it was dropped";
    private static final String NO_RECORD_OR_FIELD = NO_RECORD + ", or there is no such field";
    private static final String NO_FACT =
            "Throws `NoSuchElementException` if no record of the thing has a fact for the field";
    private static final String NEXT_DAY = "Returns the day, or -1 if there is none up to the day 999.";

    FactBounds(Sentences sentences) {
        super(sentences);
    }

    private interface OnField {
        void call(Assetmerge x, int record, int field);
    }

    @Override
    void run() {
        weight();
        factCall(26, "fact", Assetmerge::fact);
        factCall(27, "factByPairs", Assetmerge::factByPairs);
        factCall(28, "factFrom", Assetmerge::factFrom);
        factCall(29, "agreement", Assetmerge::agreement);
        factEnds();
        agreement();
        setLimit();
        isGhost();
        ghosts();
        nextGhost(33, "nextGhost", Assetmerge::nextGhost);
        nextGhost(34, "nextGhostByDays", Assetmerge::nextGhostByDays);
        nextGhostMeaning();
        pass();
        today();
    }

    private void weight() {
        sentence(25, "Returns the weight, which can be less than 0.");
        int[] days = {9, 10, 19, 20, 999};
        int[] due = {1, 0, 0, -1, -98};
        for (int i = 0; i < days.length; i++) {
            Assetmerge x = Worlds.onDay(days[i]);
            x.setTrust(0, 1);
            due("weight(0), the trust 1, on the day " + days[i], x.weight(0), due[i]);
            x.setTrust(0, 9);
            due("weight(0), the trust 9, on the day " + days[i], x.weight(0), due[i] + 8);
            x.see(0);
            due("weight(0), the trust 9, seen on the day " + days[i], x.weight(0), 9);
        }
        sentence(25, NO_RECORD);
        records("weight", Assetmerge::weight);
    }

    private void factCall(int promise, String name, OnField onField) {
        sentence(promise, NO_RECORD_OR_FIELD);
        records(name + "(.., 0)", (x, record) -> onField.call(x, record, 0));
        records(name + "(.., 2)", (x, record) -> onField.call(x, record, 2));
        noRecords(name + "(.., 3)", (x, record) -> onField.call(x, record, 3));
        threeOf(name + "(0, ..)", Worlds::brimful, (x, field) -> onField.call(x, 0, field));
        threeOf(name + "(23, ..)", Worlds::brimful, (x, field) -> onField.call(x, 23, field));
        sentence(promise, NO_FACT);
        for (int i = 0; i < 3; i++) {
            int field = i;
            String call = name + "(0, " + i + ")";
            refused(call + ", no fact at all", ELEMENT, Worlds::full, x -> onField.call(x, 0, field));
            refused(call + ", a fact of another thing", ELEMENT, () -> withFact(field, 3),
                    x -> onField.call(x, 0, field));
            refused(call + ", a fact of a dropped record", ELEMENT, () -> {
                Assetmerge x = withFact(field, 1);
                x.drop(1);
                return x;
            }, x -> onField.call(x, 0, field));
            refused(call + ", taken away", ELEMENT, () -> {
                Assetmerge x = withFact(field, 2);
                x.setFact(2, field, -1);
                return x;
            }, x -> onField.call(x, 0, field));
            refused(call + ", a fact for another field", ELEMENT, () -> withFact((field + 1) % 3, 0),
                    x -> onField.call(x, 0, field));
            answered(call + ", the fact 0 of the last record", () -> withFact(field, 2),
                    x -> onField.call(x, 0, field));
            answered(call + ", the fact 0 of its own", () -> withFact(field, 0), x -> onField.call(x, 0, field));
        }
    }

    /** The things {0, 1, 2} and {3}, and the fact 0 of one record. */
    private static Assetmerge withFact(int field, int record) {
        Assetmerge x = Worlds.withKeys(keys(1, -1, -1), keys(1, -1, -1), keys(1, -1, -1), keys(2, -1, -1));
        x.setFact(record, field, 0);
        return x;
    }

    private void factEnds() {
        sentence(26, "Returns the fact.");
        factDue("the least fact", withFact(0, 2), 0, 0, 2, 0);
        Assetmerge x = withFact(2, 0);
        x.setFact(0, 2, 999);
        factDue("the greatest fact", x, 2, 2, 0, 999);
        sentence(28, "Returns the number of that record.");
        Assetmerge all = Worlds.oneOf24();
        for (int i = 0; i < 24; i++) {
            all.setFact(i, 0, 999 - i);
        }
        for (int last = 23; last > 0; last--) {
            factDue("the last one is " + last, all, 0, 0, last, 999 - last);
            all.setFact(last, 0, -1);
        }
        factDue("the first one alone", all, 23, 0, 0, 999);
        sentence(27, "Returns the same fact, found by comparing each record with each other one.");
        Assetmerge old = Worlds.oneThing(1, 1, 1);
        old.pass(99);
        factDue("the same weights below 0", old, 0, 0, 2, 12);
        old.see(1);
        factDue("one weight above 0", old, 0, 0, 1, 11);
        old.drop(1);
        factDue("that one dropped", old, 0, 0, 2, 12);
        old.setTrust(0, 2);
        factDue("one more, below 0", old, 2, 0, 0, 10);
    }

    private void agreement() {
        sentence(29, "Returns their number divided by that of the records of the thing that have a fact for the field, "
                + "both converted to float.");
        Assetmerge x = Worlds.oneOf24();
        x.setFact(0, 0, 0);
        due("agreement(23, 0), one of one", x.agreement(23, 0), 1.0f);
        for (int i = 1; i < 24; i++) {
            x.setFact(i, 0, i);
            due("agreement(0, 0), one of " + (i + 1), x.agreement(0, 0), 1.0f / (float) (i + 1));
        }
        for (int i = 0; i < 23; i++) {
            x.setFact(i, 0, 23);
            due("agreement(0, 0), " + (i + 2) + " of 24", x.agreement(0, 0), (float) (i + 2) / 24.0f);
        }
        Assetmerge other = Worlds.withKeys(keys(1, -1, -1), keys(1, -1, -1), keys(2, -1, -1));
        other.setFact(0, 1, 7);
        other.setFact(1, 1, 8);
        other.setFact(2, 1, 8);
        due("agreement(0, 1), the same fact of another thing", other.agreement(0, 1), 1.0f / 2.0f);
        other.drop(0);
        due("agreement(1, 1), the other one dropped", other.agreement(1, 1), 1.0f);
    }

    private void setLimit() {
        sentence(30, "Returns the limit before.");
        Assetmerge x = new Assetmerge();
        due("setLimit(99)", x.setLimit(99), 30);
        due("setLimit(1)", x.setLimit(1), 99);
        due("setLimit(1) again", x.setLimit(1), 1);
        sentence(30, "Throws `IllegalArgumentException` if it is not between 1 and 99");
        range("setLimit, empty", 1, 99, Assetmerge::new, Assetmerge::setLimit);
        range("setLimit, full", 1, 99, Worlds::brimful, Assetmerge::setLimit);
        range("setLimit, on the last day", 1, 99, () -> Worlds.onDay(999), Assetmerge::setLimit);
    }

    private void isGhost() {
        sentence(31, "Returns true if it is.");
        int[] limits = {1, 30, 99};
        for (int limit : limits) {
            for (int days = limit - 1; days <= limit + 2; days++) {
                Assetmerge x = Worlds.onDay(days);
                x.setLimit(limit);
                due("isGhost(0), the limit " + limit + ", day " + days, x.isGhost(0), days > limit);
            }
        }
        due("isGhost(0), never seen in 999 days", Worlds.onDay(999).isGhost(0), true);
        due("isGhost(0), on the day 0", Worlds.onDay(0).isGhost(0), false);
        sentence(31, NO_RECORD);
        records("isGhost", Assetmerge::isGhost);
    }

    private void ghosts() {
        sentence(32, "Returns the number of things that are ghosts.");
        due("ghosts(), empty", new Assetmerge().ghosts(), 0);
        due("ghosts(), sources alone", Worlds.withSources(4).ghosts(), 0);
        Assetmerge empty = Worlds.emptied();
        empty.pass(99);
        due("ghosts(), all dropped", empty.ghosts(), 0);
        Assetmerge x = Worlds.brimful();
        due("ghosts(), full, on the day 0", x.ghosts(), 0);
        x.pass(30);
        due("ghosts(), full, on the day 30", x.ghosts(), 0);
        x.pass(1);
        due("ghosts(), full, on the day 31", x.ghosts(), 23);
        x.see(23);
        due("ghosts(), one of two records seen", x.ghosts(), 22);
        x.drop(23);
        due("ghosts(), that one dropped", x.ghosts(), 23);
        Assetmerge one = Worlds.oneOf24();
        one.pass(31);
        due("ghosts(), one thing of 24", one.ghosts(), 1);
    }

    private interface NextDay {
        int call(Assetmerge x);
    }

    private void nextGhost(int promise, String name, NextDay next) {
        sentence(promise, NEXT_DAY);
        due(name + "(), empty", next.call(new Assetmerge()), -1);
        due(name + "(), sources alone", next.call(Worlds.withSources(4)), -1);
        due(name + "(), all dropped", next.call(Worlds.emptied()), -1);
        due(name + "() on the day 0", next.call(Worlds.onDay(0)), 31);
        due(name + "() on the day 30", next.call(Worlds.onDay(30)), 31);
        due(name + "() on the day 31", next.call(Worlds.onDay(31)), -1);
        for (int limit : new int[] {1, 30, 99}) {
            due(name + "(), the day 999 with the limit " + limit, next.call(seenOn(998 - limit, limit)), 999);
            due(name + "(), the day 1000 with the limit " + limit, next.call(seenOn(999 - limit, limit)), -1);
            due(name + "(), seen on the last day, the limit " + limit, next.call(seenOn(999, limit)), -1);
        }
        Assetmerge eve = seenOn(968, 30);
        eve.pass(30);
        due(name + "() on the day 998", next.call(eve), 999);
        eve.pass(1);
        due(name + "() on the day 999", next.call(eve), -1);
        Assetmerge two = Worlds.withKeys(keys(1, 1, 1), keys(2, 2, 2));
        two.pass(1);
        two.see(0);
        due(name + "(), the earlier one of two things", next.call(two), 31);
        two.drop(1);
        due(name + "(), that one dropped", next.call(two), 32);
        Assetmerge full = Worlds.brimful();
        full.pass(31);
        due(name + "(), all are ghosts", next.call(full), -1);
        full.see(23);
        due(name + "(), the last record was seen", next.call(full), 62);
    }

    private static Assetmerge seenOn(int day, int limit) {
        Assetmerge x = Worlds.onDay(day);
        x.see(0);
        x.setLimit(limit);
        return x;
    }

    private void nextGhostMeaning() {
        sentence(33, "Returns the next day behind today on which a thing becomes a ghost if nothing is told until then");
        Assetmerge x = Worlds.withKeys(keys(1, -1, -1), keys(2, -1, -1), keys(2, -1, -1));
        x.pass(1);
        x.see(0);
        nextGhostDue("the earlier one of two", x, 31);
        x.pass(1);
        x.see(2);
        nextGhostDue("the newest record of a thing", x, 32);
        x.setLimit(1);
        nextGhostDue("the day behind today", x, 3);
        x.pass(1);
        nextGhostDue("one is a ghost since today", x, 4);
        x.pass(1);
        nextGhostDue("both are ghosts", x, -1);
        x.setLimit(99);
        nextGhostDue("they are none with another limit", x, 101);
    }

    private void pass() {
        sentence(35, "Throws `IllegalArgumentException` if the number is not between 1 and 99, or today would be behind "
                + "999");
        range("pass on the day 0", 1, 99, Assetmerge::new, Assetmerge::pass);
        range("pass on the day 20", 1, 99, Worlds::mixed, Assetmerge::pass);
        range("pass on the day 900", 1, 99, () -> Worlds.onDay(900), Assetmerge::pass);
        ObjIntConsumer<Assetmerge> pass = Assetmerge::pass;
        for (int left : new int[] {98, 50, 2, 1}) {
            range("pass on the day " + (999 - left), 1, left, () -> Worlds.onDay(999 - left), pass);
        }
        for (int days : new int[] {0, 1, 2, 99, 100, -1, Integer.MIN_VALUE, Integer.MAX_VALUE}) {
            refused("pass(" + days + ") on the last day", ARGUMENT, () -> Worlds.onDay(999), x -> x.pass(days));
        }
        sentence(35, "Returns today.");
        due("pass(1)", new Assetmerge().pass(1), 1);
        due("pass(99)", new Assetmerge().pass(99), 99);
        due("pass(99) on the day 900", Worlds.onDay(900).pass(99), 999);
        due("pass(1) on the day 998", Worlds.onDay(998).pass(1), 999);
    }

    private void today() {
        sentence(36, "`int today()`: Returns today.");
        due("today(), empty", new Assetmerge().today(), 0);
        for (int day : new int[] {0, 1, 99, 100, 998, 999}) {
            due("today() on the day " + day, Worlds.onDay(day).today(), day);
        }
    }
}
