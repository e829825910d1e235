/** Objects to start from. */
final class Worlds {
    private Worlds() {
    }

    /** Sources 0 to n - 1, all of the trust 5. */
    static Assetmerge withSources(int n) {
        Assetmerge x = new Assetmerge();
        for (int i = 0; i < n; i++) {
            x.addSource(5);
        }
        return x;
    }

    /** One source of the trust 5, and a record for each row: its strong, middle and weak key. */
    static Assetmerge withKeys(int[]... rows) {
        Assetmerge x = withSources(1);
        for (int[] row : rows) {
            x.addRecord(0, row[0], row[1], row[2]);
        }
        return x;
    }

    static int[] keys(int strong, int middle, int weak) {
        return new int[] {strong, middle, weak};
    }

    /**
     * Something of everything: the things {0, 1}, {2} and {4, 5}, the record 3 dropped, the pairs 0-2 and 1-3
     * forbidden, today 20, the record 4 seen on the day 20.
     */
    static Assetmerge mixed() {
        Assetmerge x = new Assetmerge();
        x.addSource(5);
        x.addSource(7);
        x.addRecord(0, 1, 10, -1);
        x.addRecord(1, 1, -1, 20);
        x.addRecord(0, -1, 10, -1);
        x.addRecord(1, 2, -1, -1);
        x.addRecord(0, 3, -1, 30);
        x.addRecord(1, -1, -1, 30);
        x.forbid(0, 2);
        x.forbid(1, 3);
        x.setFact(0, 0, 100);
        x.setFact(1, 0, 200);
        x.setFact(2, 1, 300);
        x.setFact(3, 2, 400);
        x.drop(3);
        x.pass(20);
        x.see(4);
        return x;
    }

    /** 24 records without keys, the last one dropped. */
    static Assetmerge full() {
        Assetmerge x = withSources(1);
        for (int i = 0; i < 24; i++) {
            x.addRecord(0, -1, -1, -1);
        }
        x.drop(23);
        return x;
    }

    /** 12 forbidden pairs: 0-1 to 0-12, and the record 12 dropped. */
    static Assetmerge parted() {
        Assetmerge x = withSources(1);
        for (int i = 0; i < 16; i++) {
            x.addRecord(0, -1, -1, -1);
        }
        for (int i = 1; i <= 12; i++) {
            x.forbid(0, i);
        }
        x.drop(12);
        return x;
    }

    /**
     * 4 sources, 24 records and 11 pairs, with room for one pair more; each record has a fact for each field, and the
     * records 0 and 23 are together by their strong key.
     */
    static Assetmerge brimful() {
        Assetmerge x = new Assetmerge();
        for (int trust : new int[] {1, 9, 5, 5}) {
            x.addSource(trust);
        }
        for (int i = 0; i < 24; i++) {
            x.addRecord(i % 4, i == 0 || i == 23 ? 99 : -1, i, -1);
            for (int field = 0; field < 3; field++) {
                x.setFact(i, field, 40 * i + field);
            }
        }
        for (int i = 0; i < 10; i++) {
            x.forbid(i, 12);
        }
        x.forbid(23, 12);
        return x;
    }

    /** The same, with the 12th pair. */
    static Assetmerge overfull() {
        Assetmerge x = brimful();
        x.forbid(10, 12);
        return x;
    }

    /** 24 records, all of them dropped. */
    static Assetmerge emptied() {
        Assetmerge x = full();
        for (int i = 0; i < 23; i++) {
            x.drop(i);
        }
        return x;
    }

    /** One record that was seen on the day 0, on a later day. */
    static Assetmerge onDay(int day) {
        Assetmerge x = withKeys(keys(1, 2, 3));
        while (x.today() < day) {
            x.pass(Math.min(99, day - x.today()));
        }
        return x;
    }

    /** A record for each trust, each of a source of its own, all of one thing; their facts are 10, 11 and so on. */
    static Assetmerge oneThing(int... trusts) {
        Assetmerge x = new Assetmerge();
        for (int i = 0; i < trusts.length; i++) {
            x.addSource(trusts[i]);
            x.addRecord(i, 1, -1, -1);
            x.setFact(i, 0, i + 10);
        }
        return x;
    }

    /** 24 records of one thing. */
    static Assetmerge oneOf24() {
        Assetmerge x = withSources(1);
        for (int i = 0; i < 24; i++) {
            x.addRecord(0, 7, -1, -1);
        }
        return x;
    }
}
