import java.util.NoSuchElementException;

/** A joiner of inventory records: ../shared/DOC.md says what it promises. */
public final class Assetmerge {
    private static final int NONE = -1;
    private static final int MOST_SOURCES = 4;
    private static final int MOST_RECORDS = 24;
    private static final int MOST_PAIRS = 12;
    private static final int KINDS = 3;
    private static final int FIELDS = 3;
    private static final int LAST_KIND = KINDS - 1;
    private static final int LOWEST_TRUST = 1;
    private static final int HIGHEST_TRUST = 9;
    private static final int HIGHEST_KEY = 99;
    private static final int HIGHEST_FACT = 999;
    private static final int LAST_DAY = 999;
    private static final int MOST_DAYS = 99;
    private static final int FIRST_LIMIT = 30;
    private static final int DAYS_PER_WEIGHT = 10;

    private final Inventory inventory = new Inventory();
    private final Joining joining = new Joining();
    private final Spreading spreading = new Spreading();
    private final int[] order = new int[MOST_RECORDS];
    private int day;
    private int limit = FIRST_LIMIT;

    public Assetmerge() {
    }

    // ---- sources and records ----

    public int addSource(int trust) throws IllegalArgumentException, IllegalStateException {
        checkRange(trust, LOWEST_TRUST, HIGHEST_TRUST);
        if (inventory.sourceCount >= MOST_SOURCES) {
            throw new IllegalStateException("there are 4 sources");
        }
        return inventory.putSource(trust);
    }

    public int setTrust(int source, int trust) throws IndexOutOfBoundsException, IllegalArgumentException {
        checkSource(source);
        checkRange(trust, LOWEST_TRUST, HIGHEST_TRUST);
        int before = inventory.trusts[source];
        inventory.trusts[source] = trust;
        return before;
    }

    public int addRecord(int source, int strong, int middle, int weak)
            throws IndexOutOfBoundsException, IllegalArgumentException, IllegalStateException {
        checkSource(source);
        checkRange(strong, NONE, HIGHEST_KEY);
        checkRange(middle, NONE, HIGHEST_KEY);
        checkRange(weak, NONE, HIGHEST_KEY);
        if (inventory.recordCount >= MOST_RECORDS) {
            throw new IllegalStateException("there are 24 records");
        }
        int record = inventory.putRecord(source, day);
        inventory.keys[0][record] = strong;
        inventory.keys[1][record] = middle;
        inventory.keys[2][record] = weak;
        return record;
    }

    public int setKey(int record, int kind, int key) throws IndexOutOfBoundsException, IllegalArgumentException {
        checkRecord(record);
        checkKind(kind);
        checkRange(key, NONE, HIGHEST_KEY);
        int before = inventory.keys[kind][record];
        inventory.keys[kind][record] = key;
        return before;
    }

    public int setFact(int record, int field, int fact) throws IndexOutOfBoundsException, IllegalArgumentException {
        checkRecord(record);
        checkField(field);
        checkRange(fact, NONE, HIGHEST_FACT);
        int before = inventory.facts[field][record];
        inventory.facts[field][record] = fact;
        return before;
    }

    public int see(int record) throws IndexOutOfBoundsException {
        checkRecord(record);
        int before = inventory.seenDays[record];
        inventory.seenDays[record] = day;
        return before;
    }

    public int drop(int record) throws IndexOutOfBoundsException {
        checkRecord(record);
        inventory.hide(record);
        return inventory.countRecords();
    }

    public int forbid(int record, int other)
            throws IndexOutOfBoundsException, IllegalArgumentException, IllegalStateException {
        checkRecord(record);
        checkRecord(other);
        checkDifferent(record, other);
        if (inventory.isForbidden(record, other)) {
            throw new IllegalStateException("they are forbidden to be together");
        }
        if (inventory.pairCount >= MOST_PAIRS) {
            throw new IllegalStateException("there are 12 pairs");
        }
        inventory.part(record, other);
        inventory.pairCount++;
        return inventory.countPairs();
    }

    public int allow(int record, int other) throws IndexOutOfBoundsException, NoSuchElementException {
        checkRecord(record);
        checkRecord(other);
        checkForbidden(record, other);
        inventory.unpart(record, other);
        inventory.pairCount--;
        return inventory.countPairs();
    }

    public int records() {
        return inventory.countRecords();
    }

    public int key(int record, int kind) throws IndexOutOfBoundsException {
        checkRecord(record);
        checkKind(kind);
        return inventory.keys[kind][record];
    }

    public int seen(int record) throws IndexOutOfBoundsException {
        checkRecord(record);
        return inventory.seenDays[record];
    }

    // ---- things ----

    public int thing(int record) throws IndexOutOfBoundsException {
        checkRecord(record);
        return findThing(record);
    }

    public int thingByRounds(int record) throws IndexOutOfBoundsException {
        checkRecord(record);
        spreading.findGroups(inventory);
        return spreading.groups[LAST_KIND][record];
    }

    public int things() {
        return countThings();
    }

    public int size(int record) throws IndexOutOfBoundsException {
        checkRecord(record);
        return countMembers(findThing(record));
    }

    public int member(int record, int index) throws IndexOutOfBoundsException, NoSuchElementException {
        checkRecord(record);
        int found = findMember(findThing(record), index);
        if (found == NONE) {
            throw new NoSuchElementException("there is no such member");
        }
        return found;
    }

    public boolean areTogether(int record, int other) throws IndexOutOfBoundsException {
        checkRecord(record);
        checkRecord(other);
        return findThing(record) == joining.groups[LAST_KIND][other];
    }

    public int step(int record, int other)
            throws IndexOutOfBoundsException, IllegalArgumentException, NoSuchElementException {
        checkRecord(record);
        checkRecord(other);
        checkDifferent(record, other);
        int found = findStep(record, other);
        if (found == NONE) {
            throw new NoSuchElementException("they are not together");
        }
        return found;
    }

    public int shared(int kind) throws IndexOutOfBoundsException {
        checkKind(kind);
        joining.findGroups(inventory);
        int count = 0;
        for (int record = 0; record < inventory.recordCount; record++) {
            if (inventory.isFirstWithKey(record, kind) && isKeyElsewhere(record, kind)) {
                count++;
            }
        }
        return count;
    }

    // The three calls below put the supposed state in and take it out again: nothing between throws.

    public int thingsWithout(int record) throws IndexOutOfBoundsException {
        checkRecord(record);
        inventory.hide(record);
        int count = countThings();
        inventory.unhide(record);
        return count;
    }

    public int thingsIf(int record, int kind, int key) throws IndexOutOfBoundsException, IllegalArgumentException {
        checkRecord(record);
        checkKind(kind);
        checkRange(key, NONE, HIGHEST_KEY);
        int before = inventory.keys[kind][record];
        inventory.keys[kind][record] = key;
        int count = countThings();
        inventory.keys[kind][record] = before;
        return count;
    }

    public int thingsIfAllowed(int record, int other) throws IndexOutOfBoundsException, NoSuchElementException {
        checkRecord(record);
        checkRecord(other);
        checkForbidden(record, other);
        inventory.unpart(record, other);
        int count = countThings();
        inventory.part(record, other);
        return count;
    }

    // ---- facts and ghosts ----

    public int weight(int record) throws IndexOutOfBoundsException {
        checkRecord(record);
        return inventory.weigh(record, day);
    }

    public int fact(int record, int field) throws IndexOutOfBoundsException, NoSuchElementException {
        checkRecord(record);
        checkField(field);
        int from = findFirstByOrder(findThing(record), field);
        checkFactRecord(from);
        return inventory.facts[field][from];
    }

    public int factByPairs(int record, int field) throws IndexOutOfBoundsException, NoSuchElementException {
        checkRecord(record);
        checkField(field);
        int from = findFirstByPairs(findThing(record), field);
        checkFactRecord(from);
        return inventory.facts[field][from];
    }

    public int factFrom(int record, int field) throws IndexOutOfBoundsException, NoSuchElementException {
        checkRecord(record);
        checkField(field);
        int from = findFirstByOrder(findThing(record), field);
        checkFactRecord(from);
        return from;
    }

    public float agreement(int record, int field) throws IndexOutOfBoundsException, NoSuchElementException {
        checkRecord(record);
        checkField(field);
        int home = findThing(record);
        int from = findFirstByOrder(home, field);
        checkFactRecord(from);
        int all = 0;
        int same = 0;
        for (int other = 0; other < inventory.recordCount; other++) {
            if (tellsFact(other, home, field)) {
                all++;
                same += inventory.facts[field][other] == inventory.facts[field][from] ? 1 : 0;
            }
        }
        return all == 0 ? 0.0f : (float) same / (float) all;
    }

    public int setLimit(int days) throws IllegalArgumentException {
        checkRange(days, 1, MOST_DAYS);
        int before = limit;
        limit = days;
        return before;
    }

    public boolean isGhost(int record) throws IndexOutOfBoundsException {
        checkRecord(record);
        return isGhostOn(findThing(record), day);
    }

    public int ghosts() {
        joining.findGroups(inventory);
        int count = 0;
        for (int home = 0; home < inventory.recordCount; home++) {
            if (isThing(home) && isGhostOn(home, day)) {
                count++;
            }
        }
        return count;
    }

    public int nextGhost() {
        joining.findGroups(inventory);
        int next = NONE;
        for (int home = 0; home < inventory.recordCount; home++) {
            if (isThing(home)) {
                int due = findLastSeen(home) + limit + 1;
                if (due > day && due <= LAST_DAY && (next == NONE || due < next)) {
                    next = due;
                }
            }
        }
        return next;
    }

    public int nextGhostByDays() {
        joining.findGroups(inventory);
        // No record was seen behind today, so who is no ghost by this day was one before.
        int last = Math.min(LAST_DAY, day + limit + 1);
        for (int next = day + 1; next <= last; next++) {
            if (becomesGhostOn(next)) {
                return next;
            }
        }
        return NONE;
    }

    // ---- days and sums ----

    public int pass(int days) throws IllegalArgumentException {
        checkRange(days, 1, MOST_DAYS);
        checkRange(day + days, 0, LAST_DAY);
        day += days;
        return day;
    }

    public int today() {
        return day;
    }

    public long mark() {
        joining.findGroups(inventory);
        long sum = 0;
        for (int home = 0; home < inventory.recordCount; home++) {
            if (isThing(home)) {
                long count = countMembers(home);
                sum += count * count * sumMembers(home) + 1;
            }
        }
        return sum;
    }

    // ---- what the calls refuse ----

    private void checkSource(int source) {
        if (source < 0 || source >= inventory.sourceCount) {
            throw new IndexOutOfBoundsException("there is no such source");
        }
    }

    private void checkRecord(int record) {
        if (!inventory.holds(record)) {
            throw new IndexOutOfBoundsException("there is no such record, or it was dropped");
        }
    }

    private static void checkKind(int kind) {
        if (kind < 0 || kind >= KINDS) {
            throw new IndexOutOfBoundsException("there is no such kind");
        }
    }

    private static void checkField(int field) {
        if (field < 0 || field >= FIELDS) {
            throw new IndexOutOfBoundsException("there is no such field");
        }
    }

    private static void checkRange(int value, int low, int high) {
        if (value < low || value > high) {
            throw new IllegalArgumentException("the value is out of its range");
        }
    }

    private static void checkDifferent(int record, int other) {
        if (record == other) {
            throw new IllegalArgumentException("both are the same");
        }
    }

    private void checkForbidden(int record, int other) {
        if (!inventory.isForbidden(record, other)) {
            throw new NoSuchElementException("they are not forbidden to be together");
        }
    }

    private static void checkFactRecord(int from) {
        if (from < 0 || from >= MOST_RECORDS) {
            throw new NoSuchElementException("no record of the thing has a fact for the field");
        }
    }

    // ---- things found by joining anew ----

    private int findThing(int record) {
        joining.findGroups(inventory);
        return joining.groups[LAST_KIND][record];
    }

    private int countThings() {
        joining.findGroups(inventory);
        int count = 0;
        for (int home = 0; home < inventory.recordCount; home++) {
            if (isThing(home)) {
                count++;
            }
        }
        return count;
    }

    private int findStep(int record, int other) {
        joining.findGroups(inventory);
        for (int kind = 0; kind < KINDS; kind++) {
            if (joining.groups[kind][record] == joining.groups[kind][other]) {
                return kind;
            }
        }
        return NONE;
    }

    // ---- things as they were found last: joining.findGroups goes ahead of each of these and of those below ----

    private boolean isThing(int home) {
        return isMember(home, home);
    }

    private boolean isMember(int record, int home) {
        return inventory.holds(record) && joining.groups[LAST_KIND][record] == home;
    }

    private int countMembers(int home) {
        int count = 0;
        for (int record = 0; record < inventory.recordCount; record++) {
            if (isMember(record, home)) {
                count++;
            }
        }
        return count;
    }

    private int sumMembers(int home) {
        int sum = 0;
        for (int record = 0; record < inventory.recordCount; record++) {
            if (isMember(record, home)) {
                sum += record;
            }
        }
        return sum;
    }

    private int findMember(int home, int index) {
        int count = 0;
        for (int record = 0; record < inventory.recordCount; record++) {
            if (isMember(record, home)) {
                if (count == index) {
                    return record;
                }
                count++;
            }
        }
        return NONE;
    }

    private boolean isKeyElsewhere(int record, int kind) {
        int home = joining.groups[LAST_KIND][record];
        for (int other = 0; other < inventory.recordCount; other++) {
            if (inventory.haveSameKey(record, other, kind) && joining.groups[LAST_KIND][other] != home) {
                return true;
            }
        }
        return false;
    }

    // ---- facts ----

    private boolean tellsFact(int record, int home, int field) {
        return isMember(record, home) && inventory.facts[field][record] != NONE;
    }

    private int findFirstByOrder(int home, int field) {
        int count = orderMembers(home);
        for (int place = 0; place < count; place++) {
            if (inventory.facts[field][order[place]] != NONE) {
                return order[place];
            }
        }
        return NONE;
    }

    private int orderMembers(int home) {
        int count = 0;
        for (int record = 0; record < inventory.recordCount; record++) {
            if (isMember(record, home)) {
                int place = count;
                while (place > 0 && inventory.isAhead(record, order[place - 1], day)) {
                    order[place] = order[place - 1];
                    place--;
                }
                order[place] = record;
                count++;
            }
        }
        return count;
    }

    private int findFirstByPairs(int home, int field) {
        for (int record = 0; record < inventory.recordCount; record++) {
            if (tellsFact(record, home, field) && !isBeaten(record, home, field)) {
                return record;
            }
        }
        return NONE;
    }

    private boolean isBeaten(int record, int home, int field) {
        for (int other = 0; other < inventory.recordCount; other++) {
            if (other != record && tellsFact(other, home, field) && inventory.isAhead(other, record, day)) {
                return true;
            }
        }
        return false;
    }

    // ---- ghosts ----

    private int findLastSeen(int home) {
        int last = 0;
        for (int record = 0; record < inventory.recordCount; record++) {
            if (isMember(record, home)) {
                last = Math.max(last, inventory.seenDays[record]);
            }
        }
        return last;
    }

    private boolean isGhostOn(int home, int date) {
        return date - findLastSeen(home) > limit;
    }

    private boolean becomesGhostOn(int date) {
        for (int home = 0; home < inventory.recordCount; home++) {
            if (isThing(home) && isGhostOn(home, date) && !isGhostOn(home, date - 1)) {
                return true;
            }
        }
        return false;
    }

    /** The sources and the records, as they were told. */
    private static final class Inventory {
        final int[] trusts = new int[MOST_SOURCES];
        final int[] sources = new int[MOST_RECORDS];
        final int[] seenDays = new int[MOST_RECORDS];
        final int[][] keys = new int[KINDS][MOST_RECORDS];
        final int[][] facts = new int[FIELDS][MOST_RECORDS];
        // A bit for each record: 24 of them fit into an int.
        final int[] forbidden = new int[MOST_RECORDS];
        int live;
        int sourceCount;
        int recordCount;
        // Told apart from the bits: pairs of dropped records count against the most pairs for good.
        int pairCount;

        int putSource(int trust) {
            int source = sourceCount;
            trusts[source] = trust;
            sourceCount++;
            return source;
        }

        int putRecord(int source, int date) {
            int record = recordCount;
            sources[record] = source;
            seenDays[record] = date;
            for (int field = 0; field < FIELDS; field++) {
                facts[field][record] = NONE;
            }
            recordCount++;
            unhide(record);
            return record;
        }

        void hide(int record) {
            live &= ~(1 << record);
        }

        void unhide(int record) {
            live |= 1 << record;
        }

        boolean holds(int record) {
            // The bit is looked at in this place, not by isIn: calls would go more than seven deep.
            return record >= 0 && record < recordCount && (live >> record & 1) != 0;
        }

        static boolean isIn(int record, int members) {
            return (members >> record & 1) != 0;
        }

        int countRecords() {
            return Integer.bitCount(live);
        }

        void part(int record, int other) {
            forbidden[record] |= 1 << other;
            forbidden[other] |= 1 << record;
        }

        void unpart(int record, int other) {
            forbidden[record] &= ~(1 << other);
            forbidden[other] &= ~(1 << record);
        }

        boolean isForbidden(int record, int other) {
            return isIn(other, forbidden[record]);
        }

        int countPairs() {
            int ends = 0;
            for (int record = 0; record < recordCount; record++) {
                if (holds(record)) {
                    ends += Integer.bitCount(forbidden[record] & live);
                }
            }
            return ends / 2;
        }

        boolean haveSameKey(int record, int other, int kind) {
            return holds(record) && holds(other)
                    && keys[kind][record] != NONE && keys[kind][record] == keys[kind][other];
        }

        boolean isFirstWithKey(int record, int kind) {
            for (int other = 0; other < record; other++) {
                if (haveSameKey(record, other, kind)) {
                    return false;
                }
            }
            return true;
        }

        /** Tells whether the records of a cluster may become one group in the step for a kind. */
        boolean mayJoin(int members, int kind) {
            for (int stronger = 0; stronger < kind; stronger++) {
                if (haveTwoKeys(members, stronger)) {
                    return false;
                }
            }
            return !haveForbiddenPair(members);
        }

        private boolean haveTwoKeys(int members, int kind) {
            int found = NONE;
            for (int record = 0; record < recordCount; record++) {
                int own = isIn(record, members) ? keys[kind][record] : NONE;
                if (own != NONE && found != NONE && own != found) {
                    return true;
                }
                found = own == NONE ? found : own;
            }
            return false;
        }

        private boolean haveForbiddenPair(int members) {
            for (int record = 0; record < recordCount; record++) {
                if (isIn(record, members) && (forbidden[record] & members) != 0) {
                    return true;
                }
            }
            return false;
        }

        int weigh(int record, int date) {
            return trusts[sources[record]] - (date - seenDays[record]) / DAYS_PER_WEIGHT;
        }

        /** Tells whether a record's fact goes before the one of another record. */
        boolean isAhead(int record, int other, int date) {
            int own = weigh(record, date);
            int its = weigh(other, date);
            if (own != its) {
                return own > its;
            }
            if (seenDays[record] != seenDays[other]) {
                return seenDays[record] > seenDays[other];
            }
            return record > other;
        }
    }

    /** Finds things in three steps; how the clusters of a step are found is left open. */
    private abstract static class Finder {
        // For each kind: the lowest record of each record's group behind the step for the kind.
        final int[][] groups = new int[KINDS][MOST_RECORDS];
        // The lowest record of each record's cluster, in the step that goes on.
        final int[] clusters = new int[MOST_RECORDS];

        abstract void findClusters(Inventory inventory, int kind);

        final void findGroups(Inventory inventory) {
            for (int kind = 0; kind < KINDS; kind++) {
                for (int record = 0; record < inventory.recordCount; record++) {
                    clusters[record] = groupBefore(record, kind);
                }
                findClusters(inventory, kind);
                joinClusters(inventory, kind);
            }
        }

        final int groupBefore(int record, int kind) {
            return kind > 0 ? groups[kind - 1][record] : record;
        }

        private void joinClusters(Inventory inventory, int kind) {
            for (int record = 0; record < inventory.recordCount; record++) {
                boolean joined = inventory.mayJoin(membersOf(clusters[record], inventory), kind);
                groups[kind][record] = joined ? clusters[record] : groupBefore(record, kind);
            }
        }

        private int membersOf(int cluster, Inventory inventory) {
            int members = 0;
            for (int record = 0; record < inventory.recordCount; record++) {
                if (inventory.holds(record) && clusters[record] == cluster) {
                    members |= 1 << record;
                }
            }
            return members;
        }
    }

    /** Finds clusters by joining two of them wherever a key links them. */
    private static final class Joining extends Finder {
        void findClusters(Inventory inventory, int kind) {
            for (int record = 0; record < inventory.recordCount; record++) {
                for (int other = 0; other < record; other++) {
                    if (inventory.haveSameKey(record, other, kind) && clusters[record] != clusters[other]) {
                        joinTwo(clusters[record], clusters[other], inventory.recordCount);
                    }
                }
            }
        }

        private void joinTwo(int cluster, int other, int recordCount) {
            int low = Math.min(cluster, other);
            int high = Math.max(cluster, other);
            for (int record = 0; record < recordCount; record++) {
                if (clusters[record] == high) {
                    clusters[record] = low;
                }
            }
        }
    }

    /** Finds clusters by rounds in which each record takes the lowest number next to it. */
    private static final class Spreading extends Finder {
        void findClusters(Inventory inventory, int kind) {
            boolean changed = true;
            // A round takes a number one link further, so there are never more rounds than records.
            for (int round = 0; changed && round < MOST_RECORDS; round++) {
                changed = spreadOnce(inventory, kind);
            }
        }

        private boolean spreadOnce(Inventory inventory, int kind) {
            boolean changed = false;
            for (int record = 0; record < inventory.recordCount; record++) {
                for (int other = 0; other < inventory.recordCount; other++) {
                    if (clusters[other] < clusters[record] && areLinked(record, other, inventory, kind)) {
                        clusters[record] = clusters[other];
                        changed = true;
                    }
                }
            }
            return changed;
        }

        private boolean areLinked(int record, int other, Inventory inventory, int kind) {
            return groupBefore(record, kind) == groupBefore(other, kind)
                    || inventory.haveSameKey(record, other, kind);
        }
    }
}
