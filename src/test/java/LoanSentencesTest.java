/** The sentences of promises 8 to 12 and 19: consents, days kept, loans, anonymising, statistics. */
public final class LoanSentencesTest {
    private static final Due due = new Due();
    private static final long LAST_DAY = Rows.LAST_DAY;
    private static final int NO_ITEM = Rows.NO_ITEM;
    private static final int[] NO_READERS = {0, -1, 3, 60, 61, Integer.MIN_VALUE, Integer.MAX_VALUE};
    private static final int[] NO_KINDS = {-1, 5, 256, Integer.MIN_VALUE, Integer.MAX_VALUE};

    public static void main(String[] args) {
        consent();
        consentNoneWasGiven();
        consentRefused();
        keeps();
        keepsRefused();
        loan();
        loanNoReader();
        loanDaysCantBe();
        loanFromAboveTo();
        loanOfTwoHundred();
        keptOrder();
        keptAnyLong();
        keptRefused();
        anonymise();
        anonymiseRefused();
        statisticsDays();
        statisticsAnonymous();
        statisticsKindThen();
        statisticsRefused();
        due.end("LoanSentencesTest");
    }

    private static void consent() {
        due.says("Promise 8", "A reader's consent is given, or taken back, on a day: how many loans are ANONYMOUS by that");
        Rows x = Rows.of(0, 0);
        x.loan(1, 10, 0, 10);
        x.loan(1, 11, 0, 11);
        x.loan(1, 12, 0, 12);
        x.loan(2, 20, 0, 0);
        due.is("given", x.consent(1, true, 0), 0);
        due.is("is given", x.about(1, 3), 1);
        due.is("given again", x.consent(1, true, LAST_DAY), 0);
        due.is("none is ANONYMOUS by that", x.about(1, 4), 3);
        due.is("taken back on the day of the first's end", x.consent(1, false, 40), 0);
        due.is("is not given", x.about(1, 3), 0);
        x.consent(1, true, 40);
        due.is("taken back a day later", x.consent(1, false, 41), 1);
        due.is("one is ANONYMOUS", x.kept(1, 0, 0), 11);
        x.consent(1, true, 0);
        due.is("taken back on the last day", x.consent(1, false, LAST_DAY), 2);
        due.is("all are ANONYMOUS", x.about(1, 4), 0);
        due.is("not another reader's", x.about(2, 4), 1);
        x.consent(1, true, 0);
        due.is("nothing is left to take", x.consent(1, false, LAST_DAY), 0);
        Rows y = Rows.of(0);
        y.keeps(0, 0);
        y.loan(1, 1, 0, 0);
        y.consent(1, true, 0);
        due.is("on day 0, with no days kept", y.consent(1, false, 0), 0);
        y.consent(1, true, 0);
        due.is("on day 1, with no days kept", y.consent(1, false, 1), 1);
    }

    private static void consentNoneWasGiven() {
        due.says("Promise 8", "(0 if none was given, as nothing is taken back)");
        Rows x = Rows.of(0, 0);
        x.loan(1, 10, 0, 10);
        due.is("none at first", x.consent(1, false, LAST_DAY), 0);
        due.is("the loan is not ANONYMOUS", x.about(1, 4), 1);
        due.is("it is KEPT by its days", x.kept(1, 0, 40), 10);
        x.consent(1, true, 0);
        due.is("given, taken back", x.consent(1, false, 40), 0);
        due.is("none any more", x.consent(1, false, 41), 0);
        due.is("the loan is not ANONYMOUS", x.about(1, 4), 1);
        due.is("but it is by anonymise", x.anonymise(41), 1);
    }

    private static void consentRefused() {
        due.says("Promise 8", "NONE if there is no such reader or day");
        Rows x = Rows.of(0, 0);
        x.loan(1, 10, 0, 0);
        x.consent(1, true, 0);
        for (int number : NO_READERS) {
            due.is("given by " + number, x.consent(number, true, 0), -1);
            due.is("taken back by " + number, x.consent(number, false, 0), -1);
        }
        for (long day : Rows.NO_DAYS) {
            due.is("given on " + day, x.consent(2, true, day), -1);
            due.is("taken back on " + day, x.consent(1, false, day), -1);
        }
        due.is("1 has given it still", x.about(1, 3), 1);
        due.is("2 has not", x.about(2, 3), 0);
        due.is("no loan is ANONYMOUS", x.about(1, 4), 1);
        due.is("on the last day", x.consent(2, true, LAST_DAY), 0);
        due.is("on day 0", x.consent(1, false, 0), 0);
    }

    private static void keeps() {
        due.says("Promise 9", "How many days a KIND's loans are kept, 0 .. 100000: what it was");
        Rows x = Rows.of(3, 4);
        x.loan(1, 8, 0, 10);
        x.loan(2, 9, 0, 10);
        due.is("30 at first", x.keeps(3, 0), 30);
        due.is("its last day", x.kept(1, 0, 10), 8);
        due.is("a day more", x.kept(1, 0, 11), NO_ITEM);
        due.is("another kind's", x.kept(2, 0, 40), 9);
        due.is("0", x.keeps(3, 1), 0);
        due.is("a day", x.kept(1, 0, 11), 8);
        due.is("two days", x.kept(1, 0, 12), NO_ITEM);
        due.is("1", x.keeps(3, 100000), 1);
        due.is("100000 days", x.kept(1, 0, 100010), 8);
        due.is("a day more", x.kept(1, 0, 100011), NO_ITEM);
        due.is("100000", x.keeps(3, 99999), 100000);
        due.is("99999", x.keeps(3, 99999), 99999);
        for (int kind = 0; kind <= 4; kind++) {
            due.is("kind " + kind, x.keeps(kind, 30), kind == 3 ? 99999 : 30);
        }
    }

    private static void keepsRefused() {
        due.says("Promise 9", "NONE if there is no such kind, or it can't be");
        Rows x = new Rows();
        for (int kind : NO_KINDS) {
            due.is("kind " + kind, x.keeps(kind, 5), -1);
        }
        for (int days : new int[] {-1, 100001, Integer.MIN_VALUE, Integer.MAX_VALUE}) {
            for (int kind = 0; kind <= 4; kind++) {
                due.is("kind " + kind + ", days " + days, x.keeps(kind, days), -1);
            }
        }
        due.is("neither", x.keeps(5, -1), -1);
        for (int kind = 0; kind <= 4; kind++) {
            due.is("kind " + kind + " is as it was", x.keeps(kind, 5), 30);
        }
    }

    private static void loan() {
        due.says("Promise 10", "A loan of the past: its number");
        Rows x = Rows.of(0, 0);
        due.is("the first", x.loan(1, 7, 0, 0), 1);
        due.is("the second, another reader's", x.loan(2, 7, 0, LAST_DAY), 2);
        due.is("the third, on the last day", x.loan(1, 7, LAST_DAY, LAST_DAY), 3);
        due.is("the fourth, of the same item and days", x.loan(1, 7, 0, 0), 4);
        due.is("of 1", x.about(1, 4), 3);
        due.is("of 2", x.about(2, 4), 1);
        x.anonymise(LAST_DAY);
        due.is("ANONYMOUS ones have their numbers still", x.loan(1, 7, 0, 0), 5);
    }

    private static void loanNoReader() {
        due.says("Promise 10", "0 if there is no such reader");
        Rows x = Rows.of(0, 0);
        for (int number : NO_READERS) {
            due.is("reader " + number, x.loan(number, 7, 0, 0), 0);
        }
        due.is("none began", x.statistics(0, 0, 0), 0);
        due.is("the first", x.loan(2, 7, 0, 0), 1);
    }

    private static void loanDaysCantBe() {
        due.says("Promise 10", "days can't be");
        Rows x = Rows.of(0);
        for (long day : Rows.NO_DAYS) {
            due.is("from " + day, x.loan(1, 7, day, LAST_DAY), 0);
            due.is("to " + day, x.loan(1, 7, 0, day), 0);
            due.is("from and to " + day, x.loan(1, 7, day, day), 0);
        }
        due.is("none began", x.statistics(0, Long.MIN_VALUE, Long.MAX_VALUE), 0);
        due.is("from 0 to the last day", x.loan(1, 7, 0, LAST_DAY), 1);
    }

    private static void loanFromAboveTo() {
        due.says("Promise 10", "from is above to");
        Rows x = Rows.of(0);
        due.is("a day above", x.loan(1, 7, 6, 5), 0);
        due.is("far above", x.loan(1, 7, LAST_DAY, 0), 0);
        due.is("none began", x.statistics(0, 0, LAST_DAY), 0);
        due.is("the same day", x.loan(1, 7, 5, 5), 1);
        due.is("a day below", x.loan(1, 7, 5, 6), 2);
    }

    private static void loanOfTwoHundred() {
        due.says("Promise 10", "or there are 200");
        Rows x = Rows.of(0, 1);
        for (int number = 1; number <= 199; number++) {
            due.is("loan " + number, x.loan(1, number, 0, 0), number);
        }
        due.is("refused at 199", x.loan(1, 0, 1, 0), 0);
        due.is("the 200th", x.loan(2, 200, 0, 0), 200);
        due.is("the 201st", x.loan(1, 201, 0, 0), 0);
        due.is("the 201st of another", x.loan(2, 201, 0, 0), 0);
        due.is("none came to 1", x.about(1, 4), 199);
        due.is("none came to 2", x.about(2, 4), 1);
        due.is("nor began", x.statistics(0, 0, 0), 199);
        due.is("the last of 1", x.kept(1, 198, 0), 199);
        due.is("the one of 2", x.kept(2, 0, 0), 200);
        due.is("all are ANONYMOUS", x.anonymise(31), 200);
        due.is("which makes no room", x.loan(1, 201, 0, 0), 0);
    }

    private static void keptOrder() {
        due.says("Promise 11", "The item of a reader's i-th loan, from 0 on, by their last days, then by numbers");
        Rows x = Rows.of(0, 0);
        x.loan(1, 50, 0, 5);
        x.loan(1, 40, 3, 4);
        x.loan(2, 99, 0, 0);
        x.loan(1, 10, 0, 5);
        x.loan(1, 60, 0, 3);
        x.loan(1, 41, 0, 4);
        x.loan(1, 50, 5, 5);
        int[] items = {60, 40, 41, 50, 10, 50};
        for (int i = 0; i < items.length; i++) {
            due.is("i " + i, x.kept(1, i, 33), items[i]);
        }
        due.is("i counts those that are KEPT", x.kept(1, 0, 34), 40);
        due.is("i counts those that are KEPT", x.kept(1, 2, 35), 50);
        due.is("the other reader's", x.kept(2, 0, 0), 99);
        x.join(2, 1);
        due.is("in one order after a join", x.kept(1, 0, 0), 99);
        due.is("in one order after a join", x.kept(1, 6, 0), 50);
    }

    private static void keptAnyLong() {
        due.says("Promise 11", "that is KEPT on a day (any long)");
        Rows x = Rows.of(0, 0);
        x.loan(1, 7, LAST_DAY, LAST_DAY);
        x.keeps(0, 100000);
        due.is("the least long", x.kept(1, 0, Long.MIN_VALUE), 7);
        due.is("day -1", x.kept(1, 0, -1), 7);
        due.is("before it began", x.kept(1, 0, 0), 7);
        due.is("as long as can be", x.kept(1, 0, LAST_DAY + 100000), 7);
        due.is("a day more", x.kept(1, 0, LAST_DAY + 100001), NO_ITEM);
        due.is("a long whose lower half is 0", x.kept(1, 0, 1L << 32), NO_ITEM);
        due.is("the greatest long", x.kept(1, 0, Long.MAX_VALUE), NO_ITEM);
        x.consent(1, true, 0);
        due.is("the greatest long, by consent", x.kept(1, 0, Long.MAX_VALUE), 7);
        due.is("the least long, by consent", x.kept(1, 0, Long.MIN_VALUE), 7);
    }

    private static void keptRefused() {
        due.says("Promise 11", "-1000000007 if there is none such");
        Rows x = Rows.of(0, 0);
        due.is("no loans", x.kept(1, 0, 0), NO_ITEM);
        x.loan(1, 7, 0, 0);
        x.loan(1, 8, 0, 0);
        due.is("the last", x.kept(1, 1, 0), 8);
        for (int i : new int[] {-1, 2, 200, Integer.MIN_VALUE, Integer.MAX_VALUE}) {
            due.is("i " + i, x.kept(1, i, 0), NO_ITEM);
        }
        for (int number : NO_READERS) {
            due.is("reader " + number, x.kept(number, 0, 0), NO_ITEM);
        }
        due.is("another reader", x.kept(2, 0, 0), NO_ITEM);
        due.is("not KEPT any more", x.kept(1, 0, 31), NO_ITEM);
        due.is("asking makes none ANONYMOUS", x.kept(1, 0, 30), 7);
        x.anonymise(31);
        due.is("ANONYMOUS", x.kept(1, 0, 0), NO_ITEM);
    }

    private static void anonymise() {
        due.says("Promise 12", "All loans that are not KEPT on a day, and not ANONYMOUS yet, become so: how many");
        Rows x = Rows.of(0, 1, 2);
        x.keeps(1, 10);
        x.loan(1, 10, 0, 10);
        x.loan(2, 20, 0, 10);
        x.loan(3, 30, 0, 10);
        x.loan(2, 21, 0, 11);
        x.consent(3, true, 0);
        due.is("day 0", x.anonymise(0), 0);
        due.is("day 20", x.anonymise(20), 0);
        due.is("day 21", x.anonymise(21), 1);
        due.is("the other one is KEPT", x.kept(2, 0, 21), 21);
        due.is("day 21 again", x.anonymise(21), 0);
        due.is("day 22", x.anonymise(22), 1);
        due.is("day 40", x.anonymise(40), 0);
        due.is("day 41", x.anonymise(41), 1);
        due.is("of 1", x.about(1, 4), 0);
        due.is("the last day", x.anonymise(LAST_DAY), 0);
        due.is("KEPT by consent", x.about(3, 4), 1);
        x.consent(3, false, 40);
        due.is("the consent is taken back", x.anonymise(41), 1);
    }

    private static void anonymiseRefused() {
        due.says("Promise 12", "NONE for no such day");
        Rows x = Rows.of(0);
        due.is("without loans", x.anonymise(-1), -1);
        x.loan(1, 7, 0, 0);
        for (long day : Rows.NO_DAYS) {
            due.is("day " + day, x.anonymise(day), -1);
        }
        due.is("none is ANONYMOUS by that", x.kept(1, 0, 30), 7);
        due.is("day 0", x.anonymise(0), 0);
        due.is("the last day", x.anonymise(LAST_DAY), 1);
    }

    private static void statisticsDays() {
        due.says("Promise 19", "began on days from one to another one (both belong to it; any longs)");
        Rows x = Rows.of(2);
        x.loan(1, 1, 0, 9);
        x.loan(1, 2, 5, 9);
        x.loan(1, 3, 5, 5);
        x.loan(1, 4, LAST_DAY, LAST_DAY);
        due.is("5 to 5", x.statistics(2, 5, 5), 2);
        due.is("4 to 5", x.statistics(2, 4, 5), 2);
        due.is("5 to 6", x.statistics(2, 5, 6), 2);
        due.is("1 to 4", x.statistics(2, 1, 4), 0);
        due.is("6 to 9, they only ended then", x.statistics(2, 6, 9), 0);
        due.is("0 to 5", x.statistics(2, 0, 5), 3);
        due.is("1 to the last day", x.statistics(2, 1, LAST_DAY), 3);
        due.is("0 to a day before the last", x.statistics(2, 0, LAST_DAY - 1), 3);
        due.is("from above to", x.statistics(2, 5, 4), 0);
        due.is("from far above to", x.statistics(2, Long.MAX_VALUE, Long.MIN_VALUE), 0);
        due.is("all longs", x.statistics(2, Long.MIN_VALUE, Long.MAX_VALUE), 4);
        due.is("below 0", x.statistics(2, Long.MIN_VALUE, -1), 0);
        due.is("the least long to 0", x.statistics(2, Long.MIN_VALUE, 0), 1);
        due.is("above the last day", x.statistics(2, LAST_DAY + 1, Long.MAX_VALUE), 0);
        due.is("the last day to the greatest long", x.statistics(2, LAST_DAY, Long.MAX_VALUE), 1);
        due.is("longs whose lower halves are 5", x.statistics(2, (1L << 32) + 5, (1L << 32) + 5), 0);
    }

    private static void statisticsAnonymous() {
        due.says("Promise 19", "How many loans, ANONYMOUS ones too");
        Rows x = Rows.of(2);
        x.loan(1, 1, 0, 0);
        x.loan(1, 2, 0, LAST_DAY);
        x.anonymise(31);
        due.is("one of them is", x.about(1, 4), 1);
        due.is("both count", x.statistics(2, 0, 0), 2);
        x.consent(1, true, 0);
        x.keeps(2, 0);
        due.is("neither consent nor days matter", x.statistics(2, 0, 0), 2);
    }

    private static void statisticsKindThen() {
        due.says("Promise 19", "of readers that were of a kind when the loan was told");
        Rows x = Rows.of(0, 4);
        x.loan(1, 1, 0, 0);
        x.loan(2, 2, 0, 0);
        x.loan(2, 3, 0, 0);
        due.is("kind 0", x.statistics(0, 0, 0), 1);
        due.is("kind 4", x.statistics(4, 0, 0), 2);
        due.is("kind 1", x.statistics(1, 0, 0), 0);
        x.join(1, 2);
        due.is("told before the join", x.statistics(0, 0, 0), 1);
        due.is("told before the join", x.statistics(4, 0, 0), 2);
        x.loan(1, 4, 0, 0);
        due.is("told after it", x.statistics(0, 0, 0), 1);
        due.is("told after it", x.statistics(4, 0, 0), 3);
    }

    private static void statisticsRefused() {
        due.says("Promise 19", "NONE if there is no such kind");
        Rows x = Rows.of(0);
        x.loan(1, 1, 0, 0);
        for (int kind : NO_KINDS) {
            due.is("kind " + kind, x.statistics(kind, 0, 0), -1);
            due.is("kind " + kind + ", from above to", x.statistics(kind, 1, 0), -1);
        }
        due.is("kind 0", x.statistics(0, 0, 0), 1);
        due.is("kind 4, without readers", x.statistics(4, 0, 0), 0);
    }
}
