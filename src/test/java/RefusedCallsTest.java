import java.util.List;

/** Each refusal of the document: its answer, and all that can be seen after it is as if there had been no call. */
public final class RefusedCallsTest {
    private static final Due due = new Due();
    private static final int NO_ITEM = Rows.NO_ITEM;
    private static final int[] NO_READERS = {0, -1, Library.BEYOND, 60, 61, Integer.MIN_VALUE, Integer.MAX_VALUE};
    private static final int[] NO_KINDS = {-1, 5, Integer.MIN_VALUE, Integer.MAX_VALUE};
    private static final int[] NO_SORTS = {-1, 6, Integer.MIN_VALUE, Integer.MAX_VALUE};

    private interface Call {
        int on(Rows x);
    }

    public static void main(String[] args) {
        theLibraryIsAsDue();
        reader();
        card();
        lost();
        block();
        consent();
        keeps();
        loan();
        anonymise();
        join();
        importRows();
        likeNames();
        callsThatOnlyAsk();
        due.end("RefusedCallsTest");
    }

    private static void refused(String call, int want, Call made) {
        Rows x = Library.make();
        Rows untouched = Library.make();
        x.signs("bo");
        untouched.signs("bo");
        due.is(call, made.on(x), want);
        sameAfter(call, Library.seen(x, " 1 7"), Library.seen(untouched, " 1 7"));
    }

    /** A refused row is taken away with the refusal, so nothing is collected before or after. */
    private static void refusedRow(String call, int want, Call made) {
        Rows x = Library.make();
        due.is(call, made.on(x), want);
        sameAfter(call, Library.seen(x, "bo 1 7"), Library.seen(Library.make(), "bo 1 7"));
    }

    private static void sameAfter(String call, List<String> got, List<String> want) {
        for (int i = 0; i < want.size(); i++) {
            due.holds("after " + call + ": " + got.get(i) + ", due is " + want.get(i), got.get(i).equals(want.get(i)));
        }
    }

    /** The comparisons say something only if the library has what they look at. */
    private static void theLibraryIsAsDue() {
        due.says("the library", "all that the refusals need");
        Rows x = Library.make();
        int[][] about = {{1, 0, 2, 0, 0}, {2, 1, 0, 0, 2}, {3, 0, 5, 1, 1}, {0, 3, 0, 0, 0}, {2, 0, 1, 0, 0}, {2, 0, 1, 0, 0}, {4, 0, 0, 0, 1}};
        for (int i = 0; i < about.length; i++) {
            for (int what = 0; what <= 4; what++) {
                due.is("about(" + (i + 1) + ", " + what + ")", x.about(i + 1, what), about[i][what]);
            }
        }
        due.is("whose(10)", x.whose(10), 0);
        due.is("whose(11)", x.whose(11), 1);
        due.is("whose(60)", x.whose(60), 5);
        due.is("blocked(2, 50)", x.blocked(2, 50), 1);
        due.is("blocked(2, 51)", x.blocked(2, 51), 3);
        due.is("blocked(4, 0)", x.blocked(4, 0), 0);
        due.is("kept(2, 1, 60)", x.kept(2, 0, 60), 77);
        due.is("kept(3, 0, LAST_DAY)", x.kept(3, 0, Rows.LAST_DAY), 79);
        due.is("statistics(1)", x.statistics(1, 0, 0), 1);
        due.is("like()", x.likeName("smith"), 5);
    }

    private static void reader() {
        due.says("Promise 2", "0 if there is no such kind");
        for (int kind : NO_KINDS) {
            refused("reader(" + kind + ", 0)", 0, x -> x.reader(kind, 0));
            refused("reader(" + kind + ", 1)", 0, x -> x.reader(kind, 1));
        }
        due.says("Promise 2", "or guardian");
        for (int guardian : NO_READERS) {
            if (guardian != 0) {
                refused("reader(0, " + guardian + ")", 0, x -> x.reader(0, guardian));
            }
        }
        due.says("Promise 2", "that has a guardian itself");
        refused("reader(0, 2)", 0, x -> x.reader(0, 2));
        refused("reader(0, 4)", 0, x -> x.reader(0, 4));
    }

    private static void card() {
        due.says("Promise 3", "0 if there is none such");
        for (int reader : NO_READERS) {
            refused("card(" + reader + ", 12)", 0, x -> x.card(reader, 12));
        }
        due.says("Promise 3", "or it has 5");
        refused("card(3, 35)", 0, x -> x.card(3, 35));
        refused("card(3, 31), its own", 0, x -> x.card(3, 31));
        refused("card(3, 11), another's", 0, x -> x.card(3, 11));
        due.says("Promise 3", "-1 if the card is somebody's (its own, too)");
        refused("card(1, 11), its own", -1, x -> x.card(1, 11));
        refused("card(1, 10), its own, LOST", -1, x -> x.card(1, 10));
        refused("card(2, 11)", -1, x -> x.card(2, 11));
        refused("card(2, 10), LOST", -1, x -> x.card(2, 10));
        refused("card(1, 60), of one by a join", -1, x -> x.card(1, 60));
        refused("card(6, 60), its own by a join", -1, x -> x.card(6, 60));
    }

    private static void lost() {
        due.says("Promise 5", "0 if the old one is not good");
        refused("lost(12, 35), nobody's", 0, x -> x.lost(12, 35));
        refused("lost(10, 12), LOST", 0, x -> x.lost(10, 12));
        refused("lost(12, 12), nobody's twice", 0, x -> x.lost(12, 12));
        refused("lost(12, 11), the new one somebody's", 0, x -> x.lost(12, 11));
        refused("lost(30, 35), LOST, and the reader has 5", 0, x -> x.lost(30, 35));
        due.says("Promise 5", "-1 if the new one is somebody's");
        refused("lost(11, 11), itself", -1, x -> x.lost(11, 11));
        refused("lost(11, 10), its reader's LOST one", -1, x -> x.lost(11, 10));
        refused("lost(11, 60), another's", -1, x -> x.lost(11, 60));
        refused("lost(11, 30), another's LOST one", -1, x -> x.lost(11, 30));
        refused("lost(31, 11), and the reader has 5", -1, x -> x.lost(31, 11));
        due.says("Promise 5", "-2 if the reader has 5");
        refused("lost(31, 35)", -2, x -> x.lost(31, 35));
        refused("lost(34, 35)", -2, x -> x.lost(34, 35));
    }

    private static void block() {
        due.says("Promise 6", "0 if there is no such reader");
        for (int reader : NO_READERS) {
            refused("block(" + reader + ", 0, 9)", 0, x -> x.block(reader, 0, 9));
        }
        due.says("Promise 6", "sort");
        for (int sort : NO_SORTS) {
            refused("block(2, " + sort + ", 9)", 0, x -> x.block(2, sort, 9));
        }
        due.says("Promise 6", "or day");
        for (long day : Rows.NO_DAYS) {
            refused("block(1, 3, " + day + ")", 0, x -> x.block(1, 3, day));
            refused("block(7, 0, " + day + ")", 0, x -> x.block(7, 0, day));
        }
    }

    private static void consent() {
        due.says("Promise 8", "NONE if there is no such reader");
        for (int reader : NO_READERS) {
            refused("consent(" + reader + ", true, 40)", -1, x -> x.consent(reader, true, 40));
            refused("consent(" + reader + ", false, 40)", -1, x -> x.consent(reader, false, 40));
        }
        due.says("Promise 8", "or day");
        for (long day : Rows.NO_DAYS) {
            refused("consent(2, true, " + day + ")", -1, x -> x.consent(2, true, day));
            refused("consent(3, false, " + day + ")", -1, x -> x.consent(3, false, day));
        }
        due.says("Promise 8", "0 if none was given, as nothing is taken back");
        refused("consent(2, false, LAST_DAY)", 0, x -> x.consent(2, false, Rows.LAST_DAY));
        refused("consent(3, true, LAST_DAY), which is given", 0, x -> x.consent(3, true, Rows.LAST_DAY));
    }

    private static void keeps() {
        due.says("Promise 9", "NONE if there is no such kind");
        for (int kind : NO_KINDS) {
            refused("keeps(" + kind + ", 9)", -1, x -> x.keeps(kind, 9));
        }
        due.says("Promise 9", "or it can't be");
        for (int days : new int[] {-1, 100001, Integer.MIN_VALUE, Integer.MAX_VALUE}) {
            refused("keeps(2, " + days + ")", -1, x -> x.keeps(2, days));
            refused("keeps(0, " + days + ")", -1, x -> x.keeps(0, days));
        }
    }

    private static void loan() {
        due.says("Promise 10", "0 if there is no such reader");
        for (int reader : NO_READERS) {
            refused("loan(" + reader + ", 5, 0, 0)", 0, x -> x.loan(reader, 5, 0, 0));
        }
        due.says("Promise 10", "days can't be");
        for (long day : Rows.NO_DAYS) {
            refused("loan(1, 5, " + day + ", LAST_DAY)", 0, x -> x.loan(1, 5, day, Rows.LAST_DAY));
            refused("loan(1, 5, 0, " + day + ")", 0, x -> x.loan(1, 5, 0, day));
            refused("loan(1, 5, " + day + ", " + day + ")", 0, x -> x.loan(1, 5, day, day));
        }
        due.says("Promise 10", "from is above to");
        refused("loan(1, 5, 1, 0)", 0, x -> x.loan(1, 5, 1, 0));
        refused("loan(1, 5, LAST_DAY, 0)", 0, x -> x.loan(1, 5, Rows.LAST_DAY, 0));
        refused("loan(1, 5, LAST_DAY, LAST_DAY - 1)", 0, x -> x.loan(1, 5, Rows.LAST_DAY, Rows.LAST_DAY - 1));
    }

    private static void anonymise() {
        due.says("Promise 12", "NONE for no such day");
        for (long day : Rows.NO_DAYS) {
            refused("anonymise(" + day + ")", -1, x -> x.anonymise(day));
        }
    }

    private static void join() {
        due.says("Promise 13", "0 if one is not there");
        for (int reader : NO_READERS) {
            refused("join(" + reader + ", 1)", 0, x -> x.join(reader, 1));
            refused("join(7, " + reader + ")", 0, x -> x.join(7, reader));
            refused("join(" + reader + ", " + reader + ")", 0, x -> x.join(reader, reader));
        }
        due.says("Promise 13", "both are one");
        refused("join(1, 1)", 0, x -> x.join(1, 1));
        refused("join(6, 6)", 0, x -> x.join(6, 6));
        refused("join(5, 6)", 0, x -> x.join(5, 6));
        refused("join(6, 5)", 0, x -> x.join(6, 5));
        due.says("Promise 13", "the other one has it as its guardian");
        refused("join(1, 2)", 0, x -> x.join(1, 2));
        refused("join(3, 4)", 0, x -> x.join(3, 4));
        due.says("Promise 13", "or one that has it as its guardian would have a guardian by it that has one itself");
        refused("join(1, 4)", 0, x -> x.join(1, 4));
        refused("join(3, 2)", 0, x -> x.join(3, 2));
    }

    private static void importRows() {
        due.says("Promise 16", "-100 less the place of the first sign that does not fit (or the end)");
        refusedRow("import of nothing", -100, x -> x.importRow(""));
        refusedRow("import of 'smith'", -105, x -> x.importRow("smith"));
        refusedRow("import of 'smith 5 1970'", -106, x -> x.importRow("smith 5 1970"));
        refusedRow("import of 'ann 1 123456'", -111, x -> x.importRow("ann 1 123456"));
        refusedRow("import of 'ann 1 7 '", -107, x -> x.importRow("ann 1 7 "));
        due.says("Promise 16", "or, negative, the first reader (not JOINED into another one) with that NAME and year");
        refusedRow("import of 'smith 4 1970'", -5, x -> x.importRow("smith 4 1970"));
    }

    private static void likeNames() {
        due.says("Promise 17", "0 if there is none, or it is no NAME");
        refusedRow("like() of nothing", 0, x -> x.likeName(""));
        refusedRow("like() of 'Smith'", 0, x -> x.likeName("Smith"));
        refusedRow("like() of 'smith '", 0, x -> x.likeName("smith "));
        refusedRow("like() of 'smith 2 1970'", 0, x -> x.likeName("smith 2 1970"));
        refusedRow("like() of 'smithsmithsmi'", 0, x -> x.likeName("smithsmithsmi"));
        refusedRow("like() of 'xxxxx'", 0, x -> x.likeName("xxxxx"));
        due.says("Promise 17", "the reader that has the nearest NAME");
        refusedRow("like() of 'smyth'", 5, x -> x.likeName("smyth"));
    }

    private static void callsThatOnlyAsk() {
        due.says("Promises 4, 7, 11, 14, 18, 19", "what is asked changes nothing");
        for (int reader : NO_READERS) {
            refused("blocked(" + reader + ", 0)", -1, x -> x.blocked(reader, 0));
            refused("kept(" + reader + ", 0, 0)", NO_ITEM, x -> x.kept(reader, 0, 0));
            refused("family(" + reader + ", 0)", 0, x -> x.family(reader, 0));
            refused("about(" + reader + ", 0)", -1, x -> x.about(reader, 0));
        }
        for (int kind : NO_KINDS) {
            refused("statistics(" + kind + ", 0, 9)", -1, x -> x.statistics(kind, 0, 9));
        }
        refused("whose(12)", 0, x -> x.whose(12));
        refused("whose(11)", 1, x -> x.whose(11));
        refused("blocked(2, 0)", 1, x -> x.blocked(2, 0));
        refused("kept(2, 2, 0)", NO_ITEM, x -> x.kept(2, 2, 0));
        refused("kept(2, 0, LAST_DAY)", NO_ITEM, x -> x.kept(2, 0, Rows.LAST_DAY));
        refused("kept(2, 0, 0)", 78, x -> x.kept(2, 0, 0));
        refused("family(2, 2)", 0, x -> x.family(2, 2));
        refused("family(2, 1)", 2, x -> x.family(2, 1));
        refused("about(2, 5)", -1, x -> x.about(2, 5));
        refused("about(2, 4)", 2, x -> x.about(2, 4));
        refused("statistics(2, 0, 9)", 1, x -> x.statistics(2, 0, 9));
    }
}
