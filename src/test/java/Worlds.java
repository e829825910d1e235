/** Objects to start from. */
final class Worlds {
    private Worlds() {
    }

    /** Sources 0 to n - 1, all of the trust 5. */
    static Assetmerge withSources(int n) {
        Assetmerge x = new Assetmerge();
        for (int i = 0; i < n; i++) {
            x.addSource(5);
        }
        return x;
    }

    /** One source of the trust 5, and a record for each row: its strong, middle and weak key. */
    static Assetmerge withKeys(int[]... rows) {
        Assetmerge x = withSources(1);
        for (int[] row : rows) {
            x.addRecord(0, row[0], row[1], row[2]);
        }
        return x;
    }

    static int[] keys(int strong, int middle, int weak) {
        return new int[] {strong, middle, weak};
    }

    /**
     * Something of everything: the things {0, 1}, {2} and {4, 5}, the record 3 dropped, the pairs 0-2 and 1-3
     * forbidden, today 20, the record 4 seen on the day 20.
     */
    static Assetmerge mixed() {
        Assetmerge x = new Assetmerge();
        x.addSource(5);
        x.addSource(7);
        x.addRecord(0, 1, 10, -1);
        x.addRecord(1, 1, -1, 20);
        x.addRecord(0, -1, 10, -1);
        x.addRecord(1, 2, -1, -1);
        x.addRecord(0, 3, -1, 30);
        x.addRecord(1, -1, -1, 30);
        x.forbid(0, 2);
        x.forbid(1, 3);
        x.setFact(0, 0, 100);
        x.setFact(1, 0, 200);
        x.setFact(2, 1, 300);
        x.setFact(3, 2, 400);
        x.drop(3);
        x.pass(20);
        x.see(4);
        return x;
    }

    /** 24 records without keys, the last one dropped. */
    static Assetmerge full() {
        Assetmerge x = withSources(1);
        for (int i = 0; i < 24; i++) {
            x.addRecord(0, -1, -1, -1);
        }
        x.drop(23);
        return x;
    }

    /** 12 forbidden pairs: 0-1 to 0-12, and the record 12 dropped. */
    static Assetmerge parted() {
        Assetmerge x = withSources(1);
        for (int i = 0; i < 16; i++) {
            x.addRecord(0, -1, -1, -1);
        }
        for (int i = 1; i <= 12; i++) {
            x.forbid(0, i);
        }
        x.drop(12);
        return x;
    }
}
