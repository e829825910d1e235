import java.util.NoSuchElementException;

/** Promises 25 to 34: facts and ghosts. */
public final class FactsTest {
    private static final Class<IndexOutOfBoundsException> INDEX = IndexOutOfBoundsException.class;
    private static final Class<IllegalArgumentException> ARGUMENT = IllegalArgumentException.class;
    private static final Class<NoSuchElementException> ELEMENT = NoSuchElementException.class;
    private static final int[] NO_RECORDS = {-1, 3, 6, 24, 32, 33, Integer.MIN_VALUE, Integer.MAX_VALUE};
    private static final int[] NO_FIELDS = {-1, 3, Integer.MIN_VALUE, Integer.MAX_VALUE};

    public static void main(String[] args) {
        weight();
        weightComesFirst();
        dayComesNext();
        numberComesLast();
        onlyTheThingTells();
        factsOfEachField();
        factRefuses();
        agreement();
        setLimit();
        isGhost();
        ghosts();
        nextGhost();
        lastDay();
        Checks.end();
    }

    private static void factDue(String what, Assetmerge x, int record, int field, int from, int fact) {
        Checks.due("26 fact(" + record + ", " + field + "), " + what, x.fact(record, field), fact);
        Checks.due("27 factByPairs(" + record + ", " + field + "), " + what, x.factByPairs(record, field), fact);
        Checks.due("28 factFrom(" + record + ", " + field + "), " + what, x.factFrom(record, field), from);
    }

    private static void weight() {
        Assetmerge x = Worlds.oneThing(1, 9);
        int[] waits = {9, 1, 9, 1, 80, 99};
        int[] lost = {0, 1, 1, 2, 10, 19};
        for (int i = 0; i < waits.length; i++) {
            x.pass(waits[i]);
            Checks.due("25 weight(0) on the day " + x.today(), x.weight(0), 1 - lost[i]);
            Checks.due("25 weight(1) on the day " + x.today(), x.weight(1), 9 - lost[i]);
        }
        x.see(0);
        Checks.due("25 weight(0), seen today", x.weight(0), 1);
        x.setTrust(0, 4);
        Checks.due("25 weight(0) behind setTrust", x.weight(0), 4);
        for (int record : NO_RECORDS) {
            Checks.refused("25 weight(" + record + ")", INDEX, Worlds::mixed, y -> y.weight(record));
        }
    }

    private static void weightComesFirst() {
        factDue("the greatest weight in front", Worlds.oneThing(9, 5, 6), 2, 0, 0, 10);
        factDue("the greatest weight in the middle", Worlds.oneThing(5, 9, 6), 0, 0, 1, 11);
        factDue("the greatest weight behind", Worlds.oneThing(5, 6, 9), 0, 0, 2, 12);
        Assetmerge x = Worlds.oneThing(6, 5);
        x.pass(19);
        x.see(1);
        factDue("the weights 5 and 5", x, 0, 0, 1, 11);
        x = Worlds.oneThing(7, 5);
        x.pass(19);
        x.see(1);
        factDue("more weight against a newer day", x, 1, 0, 0, 10);
        x.pass(1);
        factDue("the weights 5 and 5 again", x, 1, 0, 1, 11);
        x = Worlds.oneThing(1, 2);
        x.pass(30);
        factDue("weights below 0", x, 0, 0, 1, 11);
        x.see(0);
        factDue("a weight below 0 against one above", x, 1, 0, 0, 10);
    }

    private static void dayComesNext() {
        Assetmerge x = Worlds.oneThing(5, 5, 5);
        x.pass(1);
        x.see(1);
        factDue("the newest day in the middle", x, 0, 0, 1, 11);
        x.pass(1);
        x.see(0);
        factDue("the newest day in front", x, 2, 0, 0, 10);
        x.pass(1);
        x.see(2);
        factDue("the newest day behind", x, 0, 0, 2, 12);
    }

    private static void numberComesLast() {
        Assetmerge x = Worlds.oneThing(5, 5, 5, 5);
        factDue("the highest number", x, 0, 0, 3, 13);
        x.drop(3);
        factDue("the highest number that is left", x, 0, 0, 2, 12);
        x.setFact(2, 0, -1);
        factDue("the highest number with a fact", x, 2, 0, 1, 11);
        x.setFact(0, 0, 0);
        x.setTrust(0, 6);
        factDue("the fact 0", x, 2, 0, 0, 0);
    }

    private static void onlyTheThingTells() {
        Assetmerge x = Worlds.oneThing(5, 9, 6);
        x.setKey(1, 0, 2);
        factDue("the best record in another thing", x, 0, 0, 2, 12);
        factDue("the best record by itself", x, 1, 0, 1, 11);
        x.setKey(1, 0, 1);
        factDue("the best record back again", x, 0, 0, 1, 11);
    }

    private static void factsOfEachField() {
        Assetmerge x = Worlds.oneThing(5, 6, 7);
        x.setFact(0, 1, 999);
        x.setFact(1, 2, 500);
        factDue("field 0", x, 0, 0, 2, 12);
        factDue("field 1", x, 2, 1, 0, 999);
        factDue("field 2", x, 2, 2, 1, 500);
        x.setFact(2, 2, 501);
        factDue("field 2, a better one", x, 0, 2, 2, 501);
    }

    private static void factRefuses() {
        for (int record : NO_RECORDS) {
            for (int field : new int[] {0, 2, 3}) {
                String call = "(" + record + ", " + field + ")";
                Checks.refused("26 fact" + call, INDEX, Worlds::mixed, y -> y.fact(record, field));
                Checks.refused("27 factByPairs" + call, INDEX, Worlds::mixed, y -> y.factByPairs(record, field));
                Checks.refused("28 factFrom" + call, INDEX, Worlds::mixed, y -> y.factFrom(record, field));
                Checks.refused("29 agreement" + call, INDEX, Worlds::mixed, y -> y.agreement(record, field));
            }
        }
        for (int field : NO_FIELDS) {
            Checks.refused("26 fact(0, " + field + ")", INDEX, Worlds::mixed, y -> y.fact(0, field));
            Checks.refused("27 factByPairs(0, " + field + ")", INDEX, Worlds::mixed, y -> y.factByPairs(0, field));
            Checks.refused("28 factFrom(0, " + field + ")", INDEX, Worlds::mixed, y -> y.factFrom(0, field));
            Checks.refused("29 agreement(0, " + field + ")", INDEX, Worlds::mixed, y -> y.agreement(0, field));
        }
        for (int record : new int[] {0, 1, 4}) {
            Checks.refused("26 fact without one", ELEMENT, Worlds::mixed, y -> y.fact(record, 1));
            Checks.refused("27 factByPairs without one", ELEMENT, Worlds::mixed, y -> y.factByPairs(record, 1));
            Checks.refused("28 factFrom without one", ELEMENT, Worlds::mixed, y -> y.factFrom(record, 1));
            Checks.refused("29 agreement without one", ELEMENT, Worlds::mixed, y -> y.agreement(record, 1));
        }
    }

    private static void agreement() {
        Assetmerge x = Worlds.oneThing(5, 6, 7, 8);
        Checks.due("29 agreement(0, 0), one of four", x.agreement(0, 0), 1.0f / 4.0f);
        x.setFact(0, 0, 13);
        x.drop(1);
        Checks.due("29 agreement(2, 0), two of three", x.agreement(2, 0), 2.0f / 3.0f);
        x.setFact(2, 0, -1);
        Checks.due("29 agreement(2, 0), two of two", x.agreement(2, 0), 1.0f);
        x.setFact(2, 0, 12);
        x.setTrust(2, 9);
        Checks.due("29 agreement(0, 0), one of three", x.agreement(0, 0), 1.0f / 3.0f);
        x.setKey(0, 0, 2);
        Checks.due("29 agreement(0, 0), alone", x.agreement(0, 0), 1.0f);
        Assetmerge all = Worlds.withSources(1);
        for (int i = 0; i < 24; i++) {
            all.addRecord(0, -1, -1, 9);
            all.setFact(i, 2, i < 7 ? 4 : i == 23 ? 4 : i);
        }
        Checks.due("29 agreement(0, 2), 8 of 24", all.agreement(0, 2), 8.0f / 24.0f);
        all.setFact(9, 2, -1);
        Checks.due("29 agreement(0, 2), 8 of 23", all.agreement(0, 2), 8.0f / 23.0f);
    }

    private static void setLimit() {
        Assetmerge x = new Assetmerge();
        Checks.due("30 setLimit(1)", x.setLimit(1), 30);
        Checks.due("30 setLimit(99)", x.setLimit(99), 1);
        Checks.due("30 setLimit(50)", x.setLimit(50), 99);
        for (int days : new int[] {0, 100, -1, Integer.MIN_VALUE, Integer.MAX_VALUE}) {
            Checks.refused("30 setLimit(" + days + ")", ARGUMENT, Worlds::mixed, y -> y.setLimit(days));
        }
    }

    private static void ghostsDue(String what, Assetmerge x, boolean... due) {
        int count = 0;
        for (int record = 0; record < due.length; record++) {
            Checks.due("31 isGhost(" + record + "), " + what, x.isGhost(record), due[record]);
            count += due[record] && x.thing(record) == record ? 1 : 0;
        }
        Checks.due("32 ghosts(), " + what, x.ghosts(), count);
    }

    private static void isGhost() {
        Assetmerge x = Worlds.withKeys(Worlds.keys(1, -1, -1), Worlds.keys(1, -1, -1), Worlds.keys(2, -1, -1));
        ghostsDue("new", x, false, false, false);
        x.pass(30);
        ghostsDue("30 days ago", x, false, false, false);
        x.pass(1);
        ghostsDue("31 days ago", x, true, true, true);
        x.see(1);
        ghostsDue("one record seen", x, false, false, true);
        x.setLimit(31);
        ghostsDue("a greater limit", x, false, false, false);
        x.setLimit(1);
        x.pass(1);
        ghostsDue("a small limit", x, false, false, true);
        x.pass(1);
        ghostsDue("a small limit, and two days", x, true, true, true);
        x.see(0);
        x.drop(0);
        Checks.due("31 isGhost(1), the record that was seen is dropped", x.isGhost(1), true);
        for (int record : NO_RECORDS) {
            Checks.refused("31 isGhost(" + record + ")", INDEX, Worlds::mixed, y -> y.isGhost(record));
        }
    }

    private static void ghosts() {
        Assetmerge x = Worlds.mixed();
        Checks.due("32 ghosts() on the day 20", x.ghosts(), 0);
        x.pass(11);
        Checks.due("32 ghosts() on the day 31", x.ghosts(), 2);
        x.pass(20);
        Checks.due("32 ghosts() on the day 51", x.ghosts(), 3);
        x.drop(2);
        Checks.due("32 ghosts() behind drop(2)", x.ghosts(), 2);
        x.see(5);
        Checks.due("32 ghosts() behind see(5)", x.ghosts(), 1);
    }

    private static void nextDue(String what, Assetmerge x, int due) {
        Checks.due("33 nextGhost(), " + what, x.nextGhost(), due);
        Checks.due("34 nextGhostByDays(), " + what, x.nextGhostByDays(), due);
    }

    private static void nextGhost() {
        Checks.due("33 nextGhost() as the first call", Worlds.mixed().nextGhost(), 31);
        Checks.due("34 nextGhostByDays() as the first call", Worlds.mixed().nextGhostByDays(), 31);
        Assetmerge x = Worlds.mixed();
        nextDue("mixed", x, 31);
        x.pass(10);
        nextDue("the day ahead", x, 31);
        x.pass(1);
        nextDue("on that day", x, 51);
        x.setLimit(99);
        nextDue("a greater limit", x, 100);
        x.setLimit(1);
        nextDue("all are ghosts", x, -1);
        x.see(2);
        nextDue("one was seen today", x, 33);
        x.setLimit(30);
        x.see(4);
        x.see(5);
        nextDue("two were seen today", x, 62);
        x.drop(2);
        x.drop(4);
        x.drop(5);
        nextDue("those were dropped", x, -1);
        x.see(0);
        nextDue("the record of a thing with an old one", x, 62);
    }

    private static void lastDay() {
        Assetmerge x = Worlds.withKeys(Worlds.keys(1, 1, 1));
        for (int i = 0; i < 9; i++) {
            x.pass(99);
        }
        x.pass(77);
        x.see(0);
        nextDue("behind the day 999 by far", x, 999);
        x.pass(1);
        nextDue("the day 999", x, 999);
        x.see(0);
        nextDue("the day 1000", x, -1);
        x.pass(30);
        x.setLimit(29);
        nextDue("today is the day 999", x, -1);
        Checks.due("31 isGhost(0) on the day 999", x.isGhost(0), true);
    }
}
