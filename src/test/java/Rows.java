/** A ReaderRows that counts its calls: the document promises nothing after an object's 512th. */
final class Rows {
    static final int MOST_CALLS = 512;
    static final int NO_ITEM = -1000000007;
    static final long LAST_DAY = 1000000000L;
    /** No days, among them longs whose lower half, as an int, would be one. */
    static final long[] NO_DAYS = {-1, LAST_DAY + 1, Long.MIN_VALUE, Long.MAX_VALUE, 1L << 32, -(1L << 32), (1L << 32) + 7};

    private final ReaderRows rows = new ReaderRows();
    private int calls = 0;

    /** An object with a reader of each of these kinds, without guardians. */
    static Rows of(int... kinds) {
        Rows x = new Rows();
        for (int kind : kinds) {
            x.reader(kind, 0);
        }
        return x;
    }

    int calls() {
        return calls;
    }

    private ReaderRows next() {
        calls++;
        if (calls > MOST_CALLS) {
            throw new IllegalStateException("a test makes more than 512 calls of one object");
        }
        return rows;
    }

    int reader(int kind, int guardian) {
        return next().reader(kind, guardian);
    }

    int card(int reader, int c) {
        return next().card(reader, c);
    }

    int whose(int c) {
        return next().whose(c);
    }

    int lost(int c, int other) {
        return next().lost(c, other);
    }

    int block(int reader, int sort, long until) {
        return next().block(reader, sort, until);
    }

    int blocked(int reader, long day) {
        return next().blocked(reader, day);
    }

    int consent(int reader, boolean yes, long day) {
        return next().consent(reader, yes, day);
    }

    int keeps(int kind, int days) {
        return next().keeps(kind, days);
    }

    int loan(int reader, int item, long from, long to) {
        return next().loan(reader, item, from, to);
    }

    int kept(int reader, int i, long day) {
        return next().kept(reader, i, day);
    }

    int anonymise(long day) {
        return next().anonymise(day);
    }

    int join(int reader, int other) {
        return next().join(reader, other);
    }

    int family(int reader, int i) {
        return next().family(reader, i);
    }

    void sign(int c) {
        next().sign(c);
    }

    int import0() {
        return next().import0();
    }

    int like() {
        return next().like();
    }

    int about(int reader, int what) {
        return next().about(reader, what);
    }

    int statistics(int kind, long from, long to) {
        return next().statistics(kind, from, to);
    }

    void signs(String text) {
        for (int i = 0; i < text.length(); i++) {
            sign(text.charAt(i));
        }
    }

    int importRow(String row) {
        signs(row);
        return import0();
    }

    int likeName(String name) {
        signs(name);
        return like();
    }
}
