import java.util.function.IntSupplier;

/** Ways to tell a part of an object's state; each spends the object, and stays under 512 calls on a small world. */
enum Probe {
    RECORDS {
        @Override
        String tell(Assetmerge x) {
            StringBuilder told = new StringBuilder();
            told.append(x.today()).append(' ').append(x.records());
            for (int r = 0; r < RECORD_COUNT; r++) {
                int record = r;
                for (int k = 0; k < 3; k++) {
                    int kind = k;
                    told.append(' ').append(answer(() -> x.key(record, kind)));
                }
                told.append(' ').append(answer(() -> x.seen(record)));
                told.append(' ').append(answer(() -> x.weight(record)));
            }
            return told.append(' ').append(answer(() -> x.addRecord(0, 1, 2, 3))).toString();
        }
    },
    THINGS {
        @Override
        String tell(Assetmerge x) {
            StringBuilder told = new StringBuilder();
            told.append(x.things()).append(' ').append(x.mark());
            told.append(' ').append(x.shared(0)).append(' ').append(x.shared(1)).append(' ').append(x.shared(2));
            told.append(' ').append(x.ghosts()).append(' ').append(x.nextGhost());
            for (int r = 0; r < RECORD_COUNT; r++) {
                int record = r;
                told.append(' ').append(answer(() -> x.thing(record)));
                told.append(' ').append(answer(() -> x.thingByRounds(record)));
                told.append(' ').append(answer(() -> x.isGhost(record) ? 1 : 0));
            }
            return told.toString();
        }
    },
    FACTS {
        @Override
        String tell(Assetmerge x) {
            StringBuilder told = new StringBuilder();
            for (int i = 0; i < 3 * RECORD_COUNT; i++) {
                int record = i / 3;
                int field = i % 3;
                told.append(' ').append(answer(() -> x.fact(record, field)));
            }
            for (int i = 0; i < 3 * RECORD_COUNT; i++) {
                int record = i / 3;
                int field = i % 3;
                told.append(' ').append(answer(() -> x.setFact(record, field, 0)));
            }
            return told.toString();
        }
    },
    PAIRS {
        @Override
        String tell(Assetmerge x) {
            StringBuilder told = new StringBuilder();
            for (int r = 0; r < RECORD_COUNT; r++) {
                for (int o = 0; o < r; o++) {
                    int record = r;
                    int other = o;
                    told.append(' ').append(answer(() -> x.allow(record, other)));
                }
            }
            // Pairs of dropped records can't be asked for, but leave fewer pairs to forbid.
            for (int o = 1; o < RECORD_COUNT; o++) {
                int other = o;
                told.append(' ').append(answer(() -> x.forbid(0, other)));
            }
            return told.toString();
        }
    },
    SETTINGS {
        @Override
        String tell(Assetmerge x) {
            StringBuilder told = new StringBuilder();
            told.append(x.setLimit(1));
            for (int s = 0; s < 4; s++) {
                int source = s;
                told.append(' ').append(answer(() -> x.setTrust(source, 1)));
            }
            for (int s = 0; s < 5; s++) {
                told.append(' ').append(answer(() -> x.addSource(1)));
            }
            return told.toString();
        }
    };

    private static final int RECORD_COUNT = 24;

    abstract String tell(Assetmerge x);

    static String answer(IntSupplier call) {
        try {
            return Integer.toString(call.getAsInt());
        } catch (RuntimeException e) {
            return e.getClass().getSimpleName();
        }
    }
}
