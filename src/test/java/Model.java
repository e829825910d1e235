import java.util.ArrayDeque;
import java.util.ArrayList;
import java.util.Comparator;
import java.util.Deque;
import java.util.HashSet;
import java.util.List;
import java.util.NoSuchElementException;
import java.util.Set;
import java.util.TreeSet;

/** The document once more, written with sets and another way to find clusters, to compare the program with. */
final class Model {
    private static final class Row {
        int number;
        int source;
        int day;
        boolean dropped;
        int[] keys;
        int[] facts = {-1, -1, -1};
    }

    private final List<Integer> trusts = new ArrayList<>();
    private final List<Row> rows = new ArrayList<>();
    private final Set<Set<Integer>> pairs = new HashSet<>();
    private int today = 0;
    private int limit = 30;

    /** The answer of a call, or the name of its exception. */
    String answer(String name, int[] p) {
        try {
            return String.valueOf(call(name, p));
        } catch (RuntimeException e) {
            return e.getClass().getSimpleName();
        }
    }

    private Object call(String name, int[] p) {
        switch (name) {
            case "addSource": return addSource(p[0]);
            case "setTrust": return setTrust(p[0], p[1]);
            case "addRecord": return addRecord(p[0], p[1], p[2], p[3]);
            case "setKey": return setKey(p[0], p[1], p[2]);
            case "setFact": return setFact(p[0], p[1], p[2]);
            case "see": return see(p[0]);
            case "drop": row(p[0]).dropped = true; return live().size();
            case "forbid": return forbid(p[0], p[1]);
            case "allow": return allow(p[0], p[1]);
            case "records": return live().size();
            case "key": return row(p[0]).keys[index(p[1])];
            case "seen": return row(p[0]).day;
            case "thing": case "thingByRounds": return thingOf(row(p[0])).first();
            case "things": return things(2).size();
            case "size": return thingOf(row(p[0])).size();
            case "member": return member(p[0], p[1]);
            case "areTogether": return thingOf(row(p[0])).contains(row(p[1]).number);
            case "step": return step(p[0], p[1]);
            case "shared": return shared(index(p[0]));
            case "thingsWithout": return thingsWithout(p[0]);
            case "thingsIf": return thingsIf(p[0], p[1], p[2]);
            case "thingsIfAllowed": return thingsIfAllowed(p[0], p[1]);
            default: return callMore(name, p);
        }
    }

    private Object callMore(String name, int[] p) {
        switch (name) {
            case "weight": return weight(row(p[0]));
            case "fact": case "factByPairs": return best(p[0], p[1]).facts[p[1]];
            case "factFrom": return best(p[0], p[1]).number;
            case "agreement": return agreement(p[0], p[1]);
            case "setLimit": return setLimit(p[0]);
            case "isGhost": return isGhost(thingOf(row(p[0])), today);
            case "ghosts": return ghosts();
            case "nextGhost": case "nextGhostByDays": return nextGhost();
            case "pass": return pass(p[0]);
            case "today": return today;
            case "mark": return mark();
            default: throw new AssertionError(name);
        }
    }

    private static int index(int kindOrField) {
        if (kindOrField < 0 || kindOrField > 2) {
            throw new IndexOutOfBoundsException();
        }
        return kindOrField;
    }

    private static void range(int value, int low, int high) {
        if (value < low || value > high) {
            throw new IllegalArgumentException();
        }
    }

    private Row row(int record) {
        if (record < 0 || record >= rows.size() || rows.get(record).dropped) {
            throw new IndexOutOfBoundsException();
        }
        return rows.get(record);
    }

    private List<Row> live() {
        List<Row> live = new ArrayList<>(rows);
        live.removeIf(row -> row.dropped);
        return live;
    }

    private int addSource(int trust) {
        range(trust, 1, 9);
        if (trusts.size() == 4) {
            throw new IllegalStateException();
        }
        trusts.add(trust);
        return trusts.size() - 1;
    }

    private int setTrust(int source, int trust) {
        if (source < 0 || source >= trusts.size()) {
            throw new IndexOutOfBoundsException();
        }
        range(trust, 1, 9);
        return trusts.set(source, trust);
    }

    private int addRecord(int source, int strong, int middle, int weak) {
        if (source < 0 || source >= trusts.size()) {
            throw new IndexOutOfBoundsException();
        }
        int[] keys = {strong, middle, weak};
        for (int key : keys) {
            range(key, -1, 99);
        }
        if (rows.size() == 24) {
            throw new IllegalStateException();
        }
        Row row = new Row();
        row.number = rows.size();
        row.source = source;
        row.day = today;
        row.keys = keys;
        rows.add(row);
        return row.number;
    }

    private int setKey(int record, int kind, int key) {
        Row row = row(record);
        index(kind);
        range(key, -1, 99);
        int before = row.keys[kind];
        row.keys[kind] = key;
        return before;
    }

    private int setFact(int record, int field, int fact) {
        Row row = row(record);
        index(field);
        range(fact, -1, 999);
        int before = row.facts[field];
        row.facts[field] = fact;
        return before;
    }

    private int see(int record) {
        Row row = row(record);
        int before = row.day;
        row.day = today;
        return before;
    }

    private int livePairs() {
        int count = 0;
        for (Set<Integer> pair : pairs) {
            count += pair.stream().noneMatch(record -> rows.get(record).dropped) ? 1 : 0;
        }
        return count;
    }

    private int forbid(int record, int other) {
        row(record);
        row(other);
        if (record == other) {
            throw new IllegalArgumentException();
        }
        if (pairs.contains(Set.of(record, other)) || pairs.size() == 12) {
            throw new IllegalStateException();
        }
        pairs.add(Set.of(record, other));
        return livePairs();
    }

    private int allow(int record, int other) {
        row(record);
        row(other);
        if (record == other || !pairs.remove(Set.of(record, other))) {
            throw new NoSuchElementException();
        }
        return livePairs();
    }

    /** The groups behind the step for a kind. */
    private List<TreeSet<Integer>> things(int lastKind) {
        List<TreeSet<Integer>> groups = new ArrayList<>();
        for (Row row : live()) {
            groups.add(new TreeSet<>(Set.of(row.number)));
        }
        for (int kind = 0; kind <= lastKind; kind++) {
            List<TreeSet<Integer>> next = new ArrayList<>();
            List<TreeSet<Integer>> open = new ArrayList<>(groups);
            while (!open.isEmpty()) {
                List<TreeSet<Integer>> cluster = takeCluster(open, kind);
                TreeSet<Integer> all = new TreeSet<>();
                cluster.forEach(all::addAll);
                if (fits(all, kind)) {
                    next.add(all);
                } else {
                    next.addAll(cluster);
                }
            }
            groups = next;
        }
        return groups;
    }

    private List<TreeSet<Integer>> takeCluster(List<TreeSet<Integer>> open, int kind) {
        List<TreeSet<Integer>> cluster = new ArrayList<>();
        Deque<TreeSet<Integer>> waiting = new ArrayDeque<>();
        waiting.add(open.remove(0));
        while (!waiting.isEmpty()) {
            TreeSet<Integer> group = waiting.remove();
            cluster.add(group);
            for (TreeSet<Integer> other : new ArrayList<>(open)) {
                Set<Integer> common = keysOf(group, kind);
                common.retainAll(keysOf(other, kind));
                if (!common.isEmpty()) {
                    open.remove(other);
                    waiting.add(other);
                }
            }
        }
        return cluster;
    }

    private Set<Integer> keysOf(Set<Integer> group, int kind) {
        Set<Integer> keys = new HashSet<>();
        for (int record : group) {
            keys.add(rows.get(record).keys[kind]);
        }
        keys.remove(-1);
        return keys;
    }

    private boolean fits(Set<Integer> cluster, int kind) {
        for (int stronger = 0; stronger < kind; stronger++) {
            if (keysOf(cluster, stronger).size() > 1) {
                return false;
            }
        }
        return pairs.stream().noneMatch(cluster::containsAll);
    }

    private TreeSet<Integer> thingOf(Row row) {
        return groupOf(row.number, 2);
    }

    private TreeSet<Integer> groupOf(int record, int kind) {
        for (TreeSet<Integer> group : things(kind)) {
            if (group.contains(record)) {
                return group;
            }
        }
        throw new AssertionError();
    }

    private int member(int record, int index) {
        List<Integer> members = new ArrayList<>(thingOf(row(record)));
        if (index < 0 || index >= members.size()) {
            throw new NoSuchElementException();
        }
        return members.get(index);
    }

    private int step(int record, int other) {
        row(record);
        row(other);
        range(record == other ? 1 : 0, 0, 0);
        for (int kind = 0; kind < 3; kind++) {
            if (groupOf(record, kind).contains(other)) {
                return kind;
            }
        }
        throw new NoSuchElementException();
    }

    private int shared(int kind) {
        int count = 0;
        List<TreeSet<Integer>> things = things(2);
        for (int k = 0; k < 100; k++) {
            int key = k;
            count += things.stream().filter(thing -> keysOf(thing, kind).contains(key)).count() > 1 ? 1 : 0;
        }
        return count;
    }

    private int thingsWithout(int record) {
        Row row = row(record);
        row.dropped = true;
        int count = things(2).size();
        row.dropped = false;
        return count;
    }

    private int thingsIf(int record, int kind, int key) {
        int before = setKey(record, kind, key);
        int count = things(2).size();
        setKey(record, kind, before);
        return count;
    }

    private int thingsIfAllowed(int record, int other) {
        allow(record, other);
        int count = things(2).size();
        forbid(record, other);
        return count;
    }

    private int weight(Row row) {
        int weight = trusts.get(row.source);
        for (int day = row.day + 10; day <= today; day += 10) {
            weight--;
        }
        return weight;
    }

    private Row best(int record, int field) {
        Row asked = row(record);
        index(field);
        List<Row> telling = telling(asked, field);
        if (telling.isEmpty()) {
            throw new NoSuchElementException();
        }
        telling.sort(Comparator.<Row>comparingInt(this::weight).thenComparingInt(row -> row.day)
                .thenComparingInt(row -> row.number).reversed());
        return telling.get(0);
    }

    private List<Row> telling(Row asked, int field) {
        List<Row> telling = new ArrayList<>();
        for (int number : thingOf(asked)) {
            if (rows.get(number).facts[field] >= 0) {
                telling.add(rows.get(number));
            }
        }
        return telling;
    }

    private float agreement(int record, int field) {
        Row best = best(record, field);
        List<Row> telling = telling(best, field);
        long same = telling.stream().filter(row -> row.facts[field] == best.facts[field]).count();
        return (float) same / (float) telling.size();
    }

    private int setLimit(int days) {
        range(days, 1, 99);
        int before = limit;
        limit = days;
        return before;
    }

    private boolean isGhost(Set<Integer> thing, int day) {
        return thing.stream().allMatch(record -> day - rows.get(record).day > limit);
    }

    private int ghosts() {
        int count = 0;
        for (TreeSet<Integer> thing : things(2)) {
            count += isGhost(thing, today) ? 1 : 0;
        }
        return count;
    }

    private int nextGhost() {
        List<TreeSet<Integer>> things = things(2);
        for (int d = today + 1; d <= 999; d++) {
            int day = d;
            if (things.stream().anyMatch(thing -> isGhost(thing, day) && !isGhost(thing, day - 1))) {
                return day;
            }
        }
        return -1;
    }

    private int pass(int days) {
        range(days, 1, 99);
        range(today + days, 0, 999);
        today += days;
        return today;
    }

    private long mark() {
        long mark = 0;
        for (TreeSet<Integer> thing : things(2)) {
            long sum = thing.stream().mapToInt(record -> record).sum();
            mark += thing.size() * thing.size() * sum + 1;
        }
        return mark;
    }
}
