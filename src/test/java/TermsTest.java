import java.util.Random;

/** The sentences of 'What it is' and 'Terms': just inside, just outside, and the state after a refused call. */
public final class TermsTest {
    private static final Due due = new Due();
    private static final long LAST_DAY = Rows.LAST_DAY;
    private static final int NO_ITEM = Rows.NO_ITEM;
    private static final int[] NO_READERS = {0, -1, 61, 62, 256 + 1, Integer.MIN_VALUE, Integer.MAX_VALUE};

    public static void main(String[] args) {
        atMost512Calls();
        afterThatNothingIsThrown();
        days();
        readers();
        readersAsTheyCome();
        kinds();
        guardianHasNoneItself();
        joinedIsThatOneInAllCalls();
        joinedInTurn();
        cardsAreInts();
        cardOfOneReaderAtMost();
        goodOrLost();
        atMostFive();
        sorts();
        untilThatDayToo();
        oneOfASort();
        loans();
        consentNotAtFirst();
        thirtyDaysAtFirst();
        anonymousForNobody();
        anonymousAtOnce();
        constants();
        due.end("TermsTest");
    }

    private static void atMost512Calls() {
        due.says("What it is", "An object is used for at most 512 calls after it has been made");
        Rows x = new Rows();
        for (int number = 1; number <= 60; number++) {
            due.is("reader " + number, x.reader(number % 5, 0), number);
        }
        for (int number = 1; number <= 200; number++) {
            due.is("loan " + number, x.loan(60, number, 0, 200 - number), number);
        }
        for (int c = 0; c < 250; c++) {
            due.is("card " + c, x.card(1 + c / 5, c), c % 5 + 1);
        }
        due.is("the 511th call", x.kept(60, 199, 0), 1);
        due.is("the 512th call", x.whose(249), 50);
        due.is("calls", x.calls(), 512);
        Rows y = new Rows();
        for (int c = 1; c <= 505; c++) {
            y.sign('a');
        }
        due.is("a NAME that is too long", y.like(), 0);
        due.is("the 512th call, after many signs", y.importRow("b 0 1"), 1);
        due.is("calls", y.calls(), 512);
    }

    // What is answered then is free, but LANGUAGE.md lets no call throw in any state.
    private static void afterThatNothingIsThrown() {
        due.says("What it is", "what later calls answer is free");
        Random random = new Random(5);
        ReaderRows x = new ReaderRows();
        for (int call = 0; call < 100000; call++) {
            int r = random.nextInt(66) - 2;
            int q = random.nextInt(66) - 2;
            switch (random.nextInt(18)) {
                case 0 -> x.reader(q % 5, random.nextBoolean() ? 0 : r);
                case 1 -> x.card(r, random.nextInt());
                case 2 -> x.whose(q);
                case 3 -> x.lost(q, random.nextInt(500));
                case 4 -> x.block(r, q % 7, random.nextInt(50));
                case 5 -> x.blocked(r, random.nextLong());
                case 6 -> x.consent(r, random.nextBoolean(), q);
                case 7 -> x.keeps(q % 6, q * 1000);
                case 8 -> x.loan(r, q, q, q + random.nextInt(9));
                case 9 -> x.kept(r, q, random.nextLong());
                case 10 -> x.anonymise(q);
                case 11 -> x.join(r, random.nextInt(100) == 0 ? q : r);
                case 12 -> x.family(r, q);
                case 13 -> x.sign("az 04 19".charAt(random.nextInt(8)));
                case 14 -> x.import0();
                case 15 -> x.like();
                case 16 -> x.about(r, q % 7);
                default -> x.statistics(q % 6, random.nextLong(), random.nextLong());
            }
        }
    }

    private static void days() {
        due.says("Terms", "DAYS are longs, 0 .. 1000000000");
        Rows x = Rows.of(0);
        int loans = 0;
        for (long day : new long[] {0, 1, LAST_DAY - 1, LAST_DAY}) {
            due.is("block until " + day, x.block(1, 0, day), 1);
            due.is("consent on " + day, x.consent(1, true, day), 0);
            due.is("anonymise on " + day, x.anonymise(day), 0);
            due.is("loan from " + day, x.loan(1, 7, day, LAST_DAY), ++loans);
            due.is("loan to " + day, x.loan(1, 7, 0, day), ++loans);
        }
        for (long day : Rows.NO_DAYS) {
            due.is("block until " + day, x.block(1, 0, day), 0);
            due.is("consent on " + day, x.consent(1, false, day), -1);
            due.is("anonymise on " + day, x.anonymise(day), -1);
            due.is("loan from " + day, x.loan(1, 7, day, LAST_DAY), 0);
            due.is("loan to " + day, x.loan(1, 7, 0, day), 0);
            due.is("loan on " + day, x.loan(1, 7, day, day), 0);
        }
        due.is("the block stays", x.blocked(1, LAST_DAY), 0);
        due.is("and its end", x.blocked(1, LAST_DAY + 1), -1);
        due.is("the consent stays", x.about(1, 3), 1);
        due.is("no loan more", x.about(1, 4), loans);
        due.is("the next loan's number", x.loan(1, 7, 0, 0), loans + 1);
    }

    private static void readers() {
        due.says("Terms", "READERS are 1 .. 60");
        Rows x = new Rows();
        for (int number = 1; number <= 60; number++) {
            due.is("reader " + number, x.reader(3, 0), number);
        }
        for (int number : new int[] {1, 60}) {
            due.is("about " + number, x.about(number, 0), 3);
            due.is("card of " + number, x.card(number, number), 1);
            due.is("block of " + number, x.block(number, 5, 9), 1);
            due.is("blocked " + number, x.blocked(number, 9), 5);
            due.is("consent of " + number, x.consent(number, true, 0), 0);
            due.is("loan of " + number, x.loan(number, number, 0, 0), number == 1 ? 1 : 2);
            due.is("kept of " + number, x.kept(number, 0, 0), number);
            due.is("family of " + number, x.family(number, 0), number);
        }
        for (int number : NO_READERS) {
            noSuchReader(x, number);
        }
        due.is("a reader more", x.reader(3, 0), 0);
        due.is("1 into 60", x.join(1, 60), 1);
        due.is("60 has both cards", x.about(60, 2), 2);
    }

    private static void readersAsTheyCome() {
        due.says("Terms", "as they come");
        Rows x = new Rows();
        noSuchReader(x, 1);
        due.is("the first", x.reader(4, 0), 1);
        due.is("the first is there", x.about(1, 0), 4);
        noSuchReader(x, 2);
        due.is("the second", x.importRow("ann 3 7"), 2);
        due.is("the second is there", x.about(2, 0), 3);
        noSuchReader(x, 3);
        due.is("the third, after refused calls", x.reader(2, 2), 3);
        noSuchReader(x, 4);
    }

    private static void noSuchReader(Rows x, int number) {
        due.is("card of " + number, x.card(number, 12345), 0);
        due.is("card is nobody's", x.whose(12345), 0);
        due.is("block of " + number, x.block(number, 0, 1), 0);
        due.is("blocked " + number, x.blocked(number, 0), -1);
        due.is("consent of " + number, x.consent(number, true, 0), -1);
        due.is("loan of " + number, x.loan(number, 1, 0, 0), 0);
        due.is("kept of " + number, x.kept(number, 0, 0), NO_ITEM);
        due.is("join of " + number, x.join(number, 1), 0);
        due.is("join into " + number, x.join(1, number), 0);
        due.is("family of " + number, x.family(number, 0), 0);
        due.is("about " + number, x.about(number, 0), -1);
        if (number != 0) {
            due.is("guardian " + number, x.reader(0, number), 0);
        }
    }

    private static void kinds() {
        due.says("Terms", "of a KIND, 0 .. 4");
        Rows x = new Rows();
        int readers = 0;
        for (int kind = 0; kind <= 4; kind++) {
            due.is("reader of " + kind, x.reader(kind, 0), ++readers);
            due.is("its kind", x.about(readers, 0), kind);
            due.is("import of " + kind, x.importRow("ann " + kind + " 1" + kind), ++readers);
            due.is("its kind", x.about(readers, 0), kind);
            due.is("keeps of " + kind, x.keeps(kind, kind), 30);
            due.is("statistics of " + kind, x.statistics(kind, 0, 1), 0);
        }
        for (int kind : new int[] {-1, 5, 256, Integer.MIN_VALUE, Integer.MAX_VALUE}) {
            due.is("reader of " + kind, x.reader(kind, 0), 0);
            due.is("keeps of " + kind, x.keeps(kind, 1), -1);
            due.is("statistics of " + kind, x.statistics(kind, 0, 1), -1);
        }
        due.is("import of 5", x.importRow("bob 5 1"), -104);
        due.is("import of /", x.importRow("bob / 1"), -104);
        due.is("no reader more by that", x.reader(0, 0), readers + 1);
        for (int kind = 0; kind <= 4; kind++) {
            due.is("keeps of " + kind + " stays", x.keeps(kind, 0), kind);
        }
    }

    private static void guardianHasNoneItself() {
        due.says("Terms", "one may have a GUARDIAN, a reader that has none itself");
        Rows x = Rows.of(0, 0);
        due.is("a guardian without one", x.reader(0, 1), 3);
        due.is("a guardian that has one", x.reader(0, 3), 0);
        due.is("a guardian has wards, and takes one more", x.reader(0, 1), 4);
        due.is("a ward joined into a reader without", x.join(3, 2), 1);
        due.is("is no ward any more, and may be one's guardian", x.reader(0, 3), 5);
        due.is("which is the other one", x.about(5, 1), 2);
        due.is("joined into a ward", x.join(2, 4), 0);
        Rows y = Rows.of(0, 0);
        y.reader(0, 1);
        due.is("a reader without wards into a ward", y.join(2, 3), 1);
        due.is("has a guardian by it, and can't be one", y.reader(0, 2), 0);
        due.is("no reader more by that", y.reader(0, 0), 4);
    }

    private static void joinedIsThatOneInAllCalls() {
        due.says("Terms", "A reader that was JOINED into another one is that one from then on, in all calls");
        Rows x = Rows.of(1, 2);
        due.is("join", x.join(1, 2), 1);
        checkIsThatOne(x, 1, 2);
        Rows y = Rows.of(1, 2);
        due.is("join, the later into the earlier", y.join(2, 1), 1);
        checkIsThatOne(y, 2, 1);
    }

    private static void joinedInTurn() {
        due.says("Terms", "(and theirs, if that was joined in turn)");
        Rows x = Rows.of(1, 2, 3, 4);
        x.join(1, 2);
        x.join(2, 4);
        x.join(4, 3);
        checkIsThatOne(x, 1, 3);
        for (int number : new int[] {1, 2, 4}) {
            Rows y = Rows.of(1, 2, 3, 4);
            y.join(2, 4);
            y.join(4, 3);
            y.join(1, 2);
            checkIsThatOne(y, number, 3);
        }
    }

    /** Tells everything of the one number, and asks it of both. */
    private static void checkIsThatOne(Rows x, int number, int that) {
        due.is("kind", x.about(number, 0), x.about(that, 0));
        due.is("card", x.card(number, 70), 1);
        due.is("whose", x.whose(70), that);
        due.is("lost", x.lost(70, 71), that);
        due.is("block", x.block(number, 4, 9), 1);
        due.is("consent", x.consent(number, true, 0), 0);
        due.is("loan", x.loan(number, 5, 0, 0), 1);
        int ward = x.reader(0, number);
        due.is("guardian", x.about(ward, 1), that);
        checkSeesThatOne(x, number, that);
        due.is("the consent is taken back", x.consent(number, false, 31), 1);
        due.is("of that one", x.about(that, 3), 0);
        due.is("both are one", x.join(number, that), 0);
        due.is("both are one", x.join(that, number), 0);
        int other = x.reader(0, 0);
        due.is("another into it", x.join(other, number), 1);
        due.is("is that one", x.family(other, 0), that);
        int last = x.reader(4, 0);
        due.is("it into another", x.join(number, last), 1);
        due.is("that one is it, too", x.about(that, 0), 4);
        due.is("and its guardian's wards", x.about(ward, 1), last);
    }

    private static void checkSeesThatOne(Rows x, int number, int that) {
        for (int what = 0; what <= 4; what++) {
            due.is("about " + what, x.about(number, what), x.about(that, what));
        }
        due.is("how many cards", x.about(number, 2), 2);
        due.is("blocked", x.blocked(number, 9), 4);
        due.is("blocked", x.blocked(that, 9), 4);
        due.is("kept by consent", x.kept(number, 0, LAST_DAY), 5);
        due.is("kept by consent", x.kept(that, 0, LAST_DAY), 5);
        due.is("family", x.family(number, 0), that);
        due.is("family", x.family(number, 1), x.family(that, 1));
    }

    private static void cardsAreInts() {
        due.says("Terms", "CARDS are ints");
        Rows x = Rows.of(0, 0);
        int[] cards = {0, -1, 1, Integer.MIN_VALUE, Integer.MAX_VALUE};
        for (int i = 0; i < cards.length; i++) {
            due.is("card " + cards[i], x.card(2, cards[i]), i + 1);
        }
        for (int c : cards) {
            due.is("whose " + c, x.whose(c), 2);
        }
        for (int c : new int[] {-2, 2, Integer.MIN_VALUE + 1, Integer.MAX_VALUE - 1}) {
            due.is("whose " + c, x.whose(c), 0);
        }
    }

    private static void cardOfOneReaderAtMost() {
        due.says("Terms", "each belongs to one reader at most");
        Rows x = Rows.of(0, 0);
        due.is("the first", x.card(1, 5), 1);
        due.is("another reader", x.card(2, 5), -1);
        due.is("still the first's", x.whose(5), 1);
        due.is("the other has none", x.about(2, 2), 0);
        due.is("a card beside it", x.card(2, 6), 1);
    }

    private static void goodOrLost() {
        due.says("Terms", "and is good or LOST");
        Rows x = Rows.of(0);
        x.card(1, 5);
        due.is("good", x.whose(5), 1);
        due.is("lost", x.lost(5, 6), 1);
        due.is("LOST", x.whose(5), 0);
        due.is("LOST once", x.lost(5, 7), 0);
        due.is("not good again", x.card(1, 5), -1);
        due.is("LOST", x.whose(5), 0);
    }

    private static void atMostFive() {
        due.says("Terms", "a reader has at most 5 (LOST ones, too)");
        Rows x = Rows.of(0, 0);
        for (int c = 1; c <= 4; c++) {
            due.is("card " + c, x.card(1, c), c);
        }
        due.is("LOST, with a fifth in place", x.lost(4, 5), 1);
        due.is("a sixth", x.card(1, 6), 0);
        due.is("a sixth in place", x.lost(5, 6), -2);
        due.is("still 5", x.about(1, 2), 5);
        due.is("the sixth is nobody's", x.whose(6), 0);
        due.is("the fifth is good", x.whose(5), 1);
        due.is("another reader has its own 5", x.card(2, 6), 1);
    }

    private static void sorts() {
        due.says("Terms", "BLOCKS of a reader are of sorts, 0 .. 5");
        Rows x = Rows.of(0);
        for (int sort = 5; sort >= 0; sort--) {
            due.is("sort " + sort, x.block(1, sort, 10), 1);
            due.is("blocked by " + sort, x.blocked(1, 10), sort);
        }
        for (int sort : new int[] {-1, 6, 256, Integer.MIN_VALUE, Integer.MAX_VALUE}) {
            due.is("sort " + sort, x.block(1, sort, 20), 0);
        }
        due.is("no block more by that", x.blocked(1, 11), -1);
    }

    private static void untilThatDayToo() {
        due.says("Terms", "each until a day (that day too)");
        for (long until : new long[] {0, 1, 77, LAST_DAY}) {
            Rows x = Rows.of(0);
            x.block(1, 2, until);
            due.is("the day before " + until, x.blocked(1, until - 1), 2);
            due.is("day " + until, x.blocked(1, until), 2);
            due.is("the day after " + until, x.blocked(1, until + 1), -1);
        }
    }

    private static void oneOfASort() {
        due.says("Terms", "one of a sort");
        Rows x = Rows.of(0);
        x.block(1, 3, 50);
        x.block(1, 3, 20);
        due.is("the shorter one lasts", x.blocked(1, 20), 3);
        due.is("the longer one is no more", x.blocked(1, 21), -1);
        x.block(1, 4, 30);
        due.is("another sort is another one", x.blocked(1, 20), 3);
        due.is("another sort is another one", x.blocked(1, 21), 4);
    }

    private static void loans() {
        due.says("Terms", "LOANS of the past, 1 .. 200");
        Rows x = Rows.of(0, 1);
        for (int number = 1; number <= 200; number++) {
            due.is("loan " + number, x.loan(1 + number % 2, number, 3, 4), number);
        }
        due.is("loan 201", x.loan(1, 201, 3, 4), 0);
        due.is("loan 201 of another", x.loan(2, 201, 3, 4), 0);
        due.is("loans of 1", x.about(1, 4), 100);
        due.is("loans of 2", x.about(2, 4), 100);
        due.is("the last of 1", x.kept(1, 99, 4), 200);
        due.is("none behind it", x.kept(1, 100, 4), NO_ITEM);
        due.is("all that began", x.statistics(0, 3, 3) + x.statistics(1, 3, 3), 200);
        Rows y = Rows.of(0);
        int[] items = {0, -1, NO_ITEM, Integer.MIN_VALUE, Integer.MAX_VALUE};
        for (int i = 0; i < items.length; i++) {
            due.is("an item is an int", y.loan(1, items[i], 0, 0), i + 1);
            due.is("item " + items[i], y.kept(1, i, 0), items[i]);
        }
    }

    private static void consentNotAtFirst() {
        due.says("Terms", "KEPT on a day if the reader's consent is given (not at first)");
        Rows x = Rows.of(0, 0);
        x.loan(1, 8, 0, 10);
        x.loan(2, 9, 0, 10);
        due.is("not at first", x.about(1, 3), 0);
        due.is("not KEPT by consent at first", x.kept(1, 0, 41), NO_ITEM);
        x.consent(1, true, 0);
        due.is("given", x.kept(1, 0, 41), 8);
        due.is("on any day", x.kept(1, 0, Long.MAX_VALUE), 8);
        due.is("not another reader's", x.kept(2, 0, 41), NO_ITEM);
        due.is("told to a reader whose consent is given", x.loan(1, 7, 0, 0), 3);
        due.is("is KEPT, too", x.kept(1, 0, LAST_DAY), 7);
    }

    private static void thirtyDaysAtFirst() {
        due.says("Terms", "the day is not above its last day and as many days as its reader's KIND says (30 at first)");
        for (int kind = 0; kind <= 4; kind++) {
            Rows x = Rows.of(kind);
            x.loan(1, 6, 0, 10);
            x.loan(1, 7, LAST_DAY, LAST_DAY);
            due.is("day 40, kind " + kind, x.kept(1, 0, 40), 6);
            due.is("day 41, kind " + kind, x.kept(1, 0, 41), 7);
            due.is("beyond all days", x.kept(1, 0, LAST_DAY + 30), 7);
            due.is("a day more", x.kept(1, 0, LAST_DAY + 31), NO_ITEM);
            due.is("before it began", x.kept(1, 0, -1), 6);
            due.is("on no other day of it", x.anonymise(40), 0);
            due.is("a day more", x.anonymise(41), 1);
            x.keeps(kind, 0);
            due.is("no days", x.kept(1, 0, LAST_DAY), 7);
            due.is("no days", x.kept(1, 0, LAST_DAY + 1), NO_ITEM);
        }
    }

    private static void anonymousForNobody() {
        due.says("Terms", "One that is ANONYMOUS is kept for nobody, whatever comes");
        Rows x = Rows.of(0, 1);
        x.loan(1, 8, 0, 10);
        x.loan(1, 9, 0, 50);
        due.is("ANONYMOUS", x.anonymise(41), 1);
        due.is("on a day before", x.kept(1, 0, 0), 9);
        x.keeps(0, 100000);
        due.is("when more days are kept", x.kept(1, 1, 0), NO_ITEM);
        x.consent(1, true, 0);
        due.is("when a consent comes", x.kept(1, 1, 0), NO_ITEM);
        x.consent(2, true, 0);
        x.join(1, 2);
        due.is("for another one that it is joined into", x.kept(2, 0, 0), 9);
        due.is("for another one that it is joined into", x.kept(2, 1, 0), NO_ITEM);
        due.is("it is not counted as its loan", x.about(2, 4), 1);
        due.is("nor made ANONYMOUS again", x.consent(2, false, LAST_DAY), 1);
        due.is("nor again", x.anonymise(LAST_DAY), 0);
    }

    private static void anonymousAtOnce() {
        due.says("Terms", "WHEN A CONSENT IS TAKEN BACK on a day, the reader's loans that are not KEPT on that day by that are ANONYMOUS at once");
        Rows x = Rows.of(0, 0);
        x.reader(0, 1);
        for (int reader = 1; reader <= 3; reader++) {
            x.loan(reader, reader * 10, 0, 9);
            x.loan(reader, reader * 10 + 1, 0, 10);
            x.consent(reader, true, 0);
        }
        due.is("taken back on day 40", x.consent(1, false, 40), 1);
        due.is("the first is ANONYMOUS at once", x.about(1, 4), 1);
        due.is("for any day", x.kept(1, 0, 0), 11);
        due.is("the second is KEPT by its days", x.kept(1, 0, 40), 11);
        due.is("and no longer", x.kept(1, 0, 41), NO_ITEM);
        due.is("but it is not ANONYMOUS", x.about(1, 4), 1);
        due.is("another reader's are not", x.about(2, 4), 2);
        due.is("nor its ward's", x.about(3, 4), 2);
        due.is("taken back on day 39", x.consent(2, false, 39), 0);
        due.is("both stay", x.about(2, 4), 2);
        due.is("taken back on day 41", x.consent(3, false, 41), 2);
        due.is("none stays", x.about(3, 4), 0);
        due.is("given again", x.consent(3, true, 41), 0);
        due.is("none comes back", x.kept(3, 0, 0), NO_ITEM);
    }

    private static void constants() {
        due.says("Terms", "NONE = -1: None such");
        due.is("NONE", ReaderRows.NONE, -1);
    }
}
