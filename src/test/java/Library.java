import java.util.ArrayList;
import java.util.List;

/** A small library in which every refusal of the document can be met, and all that can be seen of it. */
final class Library {
    static final int BEYOND = 8;
    private static final int READERS = 8;
    private static final int[] CARDS = {0, 10, 11, 12, 30, 31, 32, 33, 34, 35, 60, 61};
    private static final long[] BLOCK_DAYS = {Long.MIN_VALUE, 0, 1, 50, 51, 100, 101};
    private static final long[] LOAN_DAYS = {0, 31, 60, Rows.LAST_DAY};

    private Library() {
    }

    /** 1 has ward 2; 3 has 5 cards, a consent and ward 4; 5 has a NAME; 6 is joined into 5; 7 has a loan alone. */
    static Rows make() {
        Rows x = Rows.of(1);
        x.reader(2, 1);
        x.reader(3, 0);
        x.reader(0, 3);
        x.importRow("smith 2 1970");
        x.reader(4, 0);
        x.reader(4, 0);
        x.card(1, 10);
        x.lost(10, 11);
        for (int c = 30; c <= 33; c++) {
            x.card(3, c);
        }
        x.lost(30, 34);
        x.card(6, 60);
        x.join(6, 5);
        x.block(1, 3, 100);
        x.block(2, 1, 50);
        x.block(3, 0, 0);
        x.loan(2, 77, 10, 20);
        x.loan(2, 78, 5, 15);
        x.loan(3, 79, 0, 0);
        x.loan(1, 80, 0, 0);
        x.loan(7, 81, 0, 100);
        x.consent(3, true, 0);
        x.keeps(2, 40);
        x.anonymise(40);
        return x;
    }

    /** Asks, and at last tells, one thing after the other; the row's rest makes a reader of what is collected. */
    static List<String> seen(Rows x, String restOfRow) {
        List<String> seen = new ArrayList<>();
        seen.add("import0()=" + x.importRow(restOfRow));
        for (int reader = 1; reader <= READERS; reader++) {
            seeReader(x, reader, seen);
        }
        for (int c : CARDS) {
            seen.add("whose(" + c + ")=" + x.whose(c));
        }
        for (int kind = 0; kind <= 4; kind++) {
            seen.add("statistics(" + kind + ")=" + x.statistics(kind, 0, Rows.LAST_DAY));
            seen.add("keeps(" + kind + ")=" + x.keeps(kind, 0));
        }
        seen.add("like() of smith=" + x.likeName("smith"));
        seen.add("like() of bo=" + x.likeName("bo"));
        seen.add("loan()=" + x.loan(1, 1, 0, 0));
        for (int reader = 1; reader <= READERS; reader++) {
            seen.add("card(" + reader + ")=" + x.card(reader, 900 + reader));
            seen.add("consent(" + reader + ")=" + x.consent(reader, false, 60));
        }
        seen.add("anonymise()=" + x.anonymise(Rows.LAST_DAY));
        seen.add("reader()=" + x.reader(0, 0));
        return seen;
    }

    private static void seeReader(Rows x, int reader, List<String> seen) {
        for (int what = 0; what <= 4; what++) {
            seen.add("about(" + reader + ", " + what + ")=" + x.about(reader, what));
        }
        for (int i = 0; i <= 3; i++) {
            seen.add("family(" + reader + ", " + i + ")=" + x.family(reader, i));
        }
        for (long day : BLOCK_DAYS) {
            seen.add("blocked(" + reader + ", " + day + ")=" + x.blocked(reader, day));
        }
        for (long day : LOAN_DAYS) {
            for (int i = 0; i <= 2; i++) {
                seen.add("kept(" + reader + ", " + i + ", " + day + ")=" + x.kept(reader, i, day));
            }
        }
    }
}
