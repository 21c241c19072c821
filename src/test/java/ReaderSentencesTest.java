/** The sentences of promises 1, 2, 13, 14 and 18: a new object, readers, joins, families, what is told about one. */
public final class ReaderSentencesTest {
    private static final Due due = new Due();
    private static final long LAST_DAY = Rows.LAST_DAY;
    private static final int NO_ITEM = Rows.NO_ITEM;

    public static void main(String[] args) {
        newObject();
        reader();
        readerRefused();
        readerOfSixty();
        joinCards();
        joinLoans();
        joinBlocks();
        joinWards();
        joinLeavesTheOther();
        joinNotThere();
        joinBothAreOne();
        joinIntoItsWard();
        joinGuardianOfGuardian();
        family();
        familyRefused();
        about();
        aboutRefused();
        due.end("ReaderSentencesTest");
    }

    private static void newObject() {
        due.says("Promise 1", "No readers");
        Rows x = new Rows();
        for (int number = 0; number <= 61; number++) {
            due.is("about " + number, x.about(number, 0), -1);
            due.is("family of " + number, x.family(number, 0), 0);
        }
        due.is("the first", x.reader(0, 0), 1);
        due.says("Promise 1", "no cards");
        x = new Rows();
        for (int c : new int[] {0, 1, -1, Integer.MIN_VALUE, Integer.MAX_VALUE}) {
            due.is("whose " + c, x.whose(c), 0);
            due.is("lost " + c, x.lost(c, 7), 0);
        }
        x.reader(0, 0);
        due.is("how many of the first reader", x.about(1, 2), 0);
        due.is("the first card, 0", x.card(1, 0), 1);
        due.says("Promise 1", "no loans");
        x = Rows.of(0);
        due.is("how many of the first reader", x.about(1, 4), 0);
        due.is("kept", x.kept(1, 0, 0), NO_ITEM);
        due.is("anonymise", x.anonymise(LAST_DAY), 0);
        for (int kind = 0; kind <= 4; kind++) {
            due.is("statistics of " + kind, x.statistics(kind, Long.MIN_VALUE, Long.MAX_VALUE), 0);
        }
        due.is("the first loan", x.loan(1, 0, 0, 0), 1);
        due.says("Promise 1", "nor anything else");
        x = Rows.of(0);
        due.is("no blocks", x.blocked(1, Long.MIN_VALUE), -1);
        due.is("no consent", x.about(1, 3), 0);
        due.is("no signs", x.import0(), -100);
        due.is("no NAME", x.likeName("a"), 0);
    }

    private static void reader() {
        due.says("Promise 2", "A reader more, of a kind, with a guardian, or none (0): its number");
        Rows x = new Rows();
        due.is("without guardian", x.reader(4, 0), 1);
        due.is("with guardian", x.reader(0, 1), 2);
        due.is("with the same guardian", x.reader(1, 1), 3);
        due.is("kinds", x.about(1, 0) * 100 + x.about(2, 0) * 10 + x.about(3, 0), 401);
        due.is("guardians", x.about(1, 1) * 100 + x.about(2, 1) * 10 + x.about(3, 1), 11);
        due.is("a guardian with a number above those", x.reader(2, 0), 4);
        due.is("is one", x.reader(3, 4), 5);
        due.is("its guardian", x.about(5, 1), 4);
        due.is("an imported one", x.importRow("ann 0 1"), 6);
        due.is("is a guardian, too", x.reader(3, 6), 7);
    }

    private static void readerRefused() {
        due.says("Promise 2", "0 if there is no such kind, or guardian, that has a guardian itself");
        Rows x = Rows.of(0);
        due.is("kind 5", x.reader(5, 0), 0);
        due.is("kind -1", x.reader(-1, 0), 0);
        due.is("kind 5 with a guardian", x.reader(5, 1), 0);
        due.is("guardian 2, the one that comes", x.reader(0, 2), 0);
        due.is("guardian -1", x.reader(0, -1), 0);
        due.is("guardian 61", x.reader(0, 61), 0);
        due.is("none came", x.about(2, 0), -1);
        due.is("nor into the family", x.family(1, 1), 0);
        due.is("the next one's number", x.reader(0, 1), 2);
        due.is("guardian with a guardian", x.reader(0, 2), 0);
        due.is("none came", x.about(3, 0), -1);
        due.is("the next one's number", x.reader(0, 1), 3);
    }

    private static void readerOfSixty() {
        due.says("Promise 2", "or there are 60");
        Rows x = new Rows();
        for (int number = 1; number <= 59; number++) {
            due.is("reader " + number, x.reader(number % 5, number == 1 ? 0 : 1), number);
        }
        due.is("no such kind at 59", x.reader(5, 0), 0);
        due.is("the 60th", x.reader(2, 1), 60);
        due.is("the 61st", x.reader(2, 0), 0);
        due.is("the 61st with a guardian", x.reader(2, 1), 0);
        due.is("none came", x.about(61, 0), -1);
        due.is("the last of the family", x.family(1, 59), 60);
        due.is("none behind it", x.family(1, 60), 0);
        due.is("the 60th is as it was", x.about(60, 0), 2);
        due.is("a join", x.join(60, 59), 1);
        due.is("makes no number free", x.reader(2, 0), 0);
        due.is("and the joined one stays so", x.about(60, 0), 4);
    }

    private static void joinCards() {
        due.says("Promise 13", "its cards (beyond 5, too) are the other's");
        Rows x = Rows.of(0, 0, 0);
        for (int c = 0; c < 5; c++) {
            x.card(1, 10 + c);
            x.card(2, 20 + c);
        }
        x.card(3, 30);
        x.lost(30, 31);
        due.is("join", x.join(1, 2), 1);
        due.is("10 cards", x.about(2, 2), 10);
        for (int c = 0; c < 5; c++) {
            due.is("whose " + (10 + c), x.whose(10 + c), 2);
            due.is("whose " + (20 + c), x.whose(20 + c), 2);
        }
        due.is("a card more", x.card(2, 40), 0);
        due.is("one in place", x.lost(10, 40), -2);
        due.is("it stays good", x.whose(10), 2);
        due.is("join with a LOST one", x.join(3, 2), 1);
        due.is("12 cards", x.about(2, 2), 12);
        due.is("LOST stays LOST", x.whose(30), 0);
        due.is("it is somebody's", x.lost(31, 30), -1);
        due.is("good stays good", x.whose(31), 2);
        Rows y = Rows.of(0, 0);
        y.card(1, 1);
        y.card(1, 2);
        y.card(2, 3);
        y.card(2, 4);
        y.join(2, 1);
        due.is("four together, a fifth", y.card(1, 5), 5);
        due.is("a sixth", y.card(1, 6), 0);
    }

    private static void joinLoans() {
        due.says("Promise 13", "loans are the other's");
        Rows x = Rows.of(1, 2);
        x.keeps(2, 5);
        x.loan(1, 10, 0, 7);
        x.loan(2, 20, 0, 7);
        x.loan(1, 11, 0, 6);
        due.is("join", x.join(1, 2), 1);
        int[] items = {11, 10, 20, NO_ITEM};
        for (int i = 0; i < items.length; i++) {
            due.is("kept(2, " + i + ", 0)", x.kept(2, i, 0), items[i]);
            due.is("kept(1, " + i + ", 0)", x.kept(1, i, 0), items[i]);
        }
        due.is("by the days of the other's KIND", x.kept(2, 0, 12), 10);
        due.is("a day more", x.kept(2, 0, 13), NO_ITEM);
        due.is("how many", x.about(2, 4), 3);
        due.is("by the other's consent", x.consent(2, true, 0), 0);
        due.is("by the other's consent", x.kept(2, 0, LAST_DAY), 11);
        due.is("ANONYMOUS when that is taken back", x.consent(2, false, 12), 1);
    }

    private static void joinBlocks() {
        due.says("Promise 13", "BLOCKS are the other's (of one sort the later end)");
        long[][] ends = {{5, 6, 6}, {6, 5, 6}, {7, 7, 7}, {8, -1, 8}, {-1, 9, 9}, {0, -1, 0}, {LAST_DAY, 0, LAST_DAY}};
        for (long[] end : ends) {
            Rows x = Rows.of(0, 0);
            if (end[0] >= 0) {
                x.block(1, 2, end[0]);
            }
            if (end[1] >= 0) {
                x.block(2, 2, end[1]);
            }
            x.join(1, 2);
            due.is("the later of " + end[0] + " and " + end[1], x.blocked(2, end[2]), 2);
            due.is("no later than that", x.blocked(2, end[2] + 1), -1);
            due.is("by the old number", x.blocked(1, end[2]), 2);
        }
        for (int sort = 0; sort <= 5; sort++) {
            Rows x = Rows.of(0, 0);
            x.block(1, sort, 5);
            x.join(1, 2);
            due.is("sort " + sort, x.blocked(2, 5), sort);
        }
        Rows x = Rows.of(0, 0);
        x.block(1, 1, 20);
        x.block(2, 0, 10);
        x.join(1, 2);
        due.is("another sort stays", x.blocked(2, 10), 0);
        due.is("another sort comes", x.blocked(2, 11), 1);
        Rows y = Rows.of(0, 0, 0, 0, 0, 0);
        y.block(1, 5, 9);
        y.block(3, 0, 9);
        y.join(2, 5);
        for (int number : new int[] {2, 4, 5, 6}) {
            due.is("no block comes from a reader beside it, to " + number, y.blocked(number, Long.MIN_VALUE), -1);
        }
        due.is("the block of one beside it stays", y.blocked(1, 9), 5);
        due.is("the block of one beside it stays", y.blocked(3, 9), 0);
    }

    private static void joinWards() {
        due.says("Promise 13", "whoever had it as GUARDIAN has the other one");
        Rows x = Rows.of(0, 0, 0);
        x.reader(0, 1);
        x.reader(0, 2);
        x.reader(0, 1);
        x.block(2, 3, 9);
        due.is("join", x.join(1, 2), 1);
        due.is("guardian of 4", x.about(4, 1), 2);
        due.is("guardian of 5", x.about(5, 1), 2);
        due.is("guardian of 6", x.about(6, 1), 2);
        due.is("the other's block", x.blocked(4, 9), 3);
        int[] family = {2, 4, 5, 6, 0};
        for (int i = 0; i < family.length; i++) {
            due.is("family(6, " + i + ")", x.family(6, i), family[i]);
        }
        due.is("join in turn", x.join(2, 3), 1);
        due.is("guardian of 4", x.about(4, 1), 3);
        due.is("guardian of 5", x.about(5, 1), 3);
        due.is("a ward into its guardian", x.join(4, 3), 1);
        due.is("is no ward of itself", x.about(4, 1), 0);
        due.is("nor in its family twice", x.family(3, 1), 5);
    }

    private static void joinLeavesTheOther() {
        due.says("Promise 13", "The other's kind, consent, guardian stay");
        Rows x = Rows.of(1, 2, 3);
        x.reader(4, 1);
        x.consent(2, true, 0);
        due.is("2 into 4", x.join(2, 4), 1);
        due.is("kind", x.about(4, 0), 4);
        due.is("consent, not given", x.about(4, 3), 0);
        due.is("guardian", x.about(4, 1), 1);
        due.is("4 into 3", x.join(4, 3), 1);
        due.is("kind", x.about(3, 0), 3);
        due.is("no guardian", x.about(3, 1), 0);
        due.is("nor by the old number", x.about(2, 1), 0);
        due.is("the old guardian has no ward", x.family(1, 1), 0);
        x.consent(3, true, 0);
        due.is("1 into 3", x.join(1, 3), 1);
        due.is("consent, given", x.about(3, 3), 1);
        Rows y = Rows.of(0, 0);
        y.reader(0, 1);
        y.reader(0, 2);
        due.is("a ward into another's ward", y.join(3, 4), 1);
        due.is("guardian", y.about(3, 1), 2);
        due.is("the old guardian has no ward", y.family(1, 1), 0);
        due.is("the other has it once", y.family(2, 1), 4);
        due.is("the other has it once", y.family(2, 2), 0);
    }

    private static void joinNotThere() {
        due.says("Promise 13", "0 if one is not there");
        Rows x = Rows.of(0, 0);
        for (int number : new int[] {0, 3, -1, 60, 61, Integer.MIN_VALUE, Integer.MAX_VALUE}) {
            due.is("join(" + number + ", 1)", x.join(number, 1), 0);
            due.is("join(1, " + number + ")", x.join(1, number), 0);
        }
        due.is("1 is itself", x.family(1, 0), 1);
        due.is("2 is itself", x.family(2, 0), 2);
        due.is("both are there", x.join(1, 2), 1);
    }

    private static void joinBothAreOne() {
        due.says("Promise 13", "both are one");
        Rows x = Rows.of(1, 2, 3);
        x.card(1, 5);
        x.block(1, 0, 5);
        due.is("itself", x.join(1, 1), 0);
        due.is("the card stays", x.about(1, 2), 1);
        due.is("the block stays", x.blocked(1, 5), 0);
        due.is("two are not one yet", x.join(1, 2), 1);
        due.is("joined", x.join(1, 2), 0);
        due.is("joined, the other way", x.join(2, 1), 0);
        due.is("the kind stays the other's", x.about(1, 0), 2);
        due.is("the third into the first", x.join(3, 1), 1);
        due.is("both are the second", x.join(1, 3), 0);
    }

    private static void joinIntoItsWard() {
        due.says("Promise 13", "the other one has it as its guardian");
        Rows x = Rows.of(1, 2);
        x.reader(3, 1);
        x.card(1, 5);
        due.is("guardian into ward", x.join(1, 3), 0);
        due.is("the guardian is itself", x.about(1, 0), 1);
        due.is("the ward has it still", x.about(3, 1), 1);
        due.is("its card stays", x.whose(5), 1);
        due.is("the guardian into another one", x.join(1, 2), 1);
        due.is("which is the guardian now", x.join(2, 3), 0);
        due.is("by its old number, too", x.join(1, 3), 0);
        due.is("ward into guardian", x.join(3, 1), 1);
    }

    private static void joinGuardianOfGuardian() {
        due.says("Promise 13", "or one that has it as its guardian would have a guardian by it that has one itself");
        Rows x = Rows.of(1, 2, 3);
        x.reader(0, 1);
        x.reader(0, 2);
        due.is("guardian into another's ward", x.join(1, 5), 0);
        due.is("its ward has it still", x.about(4, 1), 1);
        due.is("it has no guardian", x.about(1, 1), 0);
        due.is("the other's family is as it was", x.family(2, 2), 0);
        due.is("one without wards into a ward", x.join(3, 5), 1);
        due.is("the last ward goes", x.join(4, 5), 1);
        due.is("a guardian no more", x.join(1, 5), 1);
        due.is("it has that guardian", x.about(1, 1), 2);
        Rows y = Rows.of(0, 0);
        y.reader(0, 1);
        due.is("guardian into one that has none", y.join(1, 2), 1);
        due.is("its ward's guardian", y.about(3, 1), 2);
    }

    private static void family() {
        due.says("Promise 14", "its guardian (or itself, if it has none) first");
        Rows x = Rows.of(0, 0, 0);
        x.reader(0, 3);
        x.reader(0, 2);
        x.reader(0, 3);
        due.is("itself, without wards", x.family(1, 0), 1);
        due.is("itself, with wards", x.family(3, 0), 3);
        due.is("its guardian", x.family(6, 0), 3);
        due.is("its guardian", x.family(5, 0), 2);
        due.says("Promise 14", "then whoever has that as guardian, by numbers; the i-th, from 0 on");
        for (int number : new int[] {3, 4, 6}) {
            due.is("the first ward, for " + number, x.family(number, 1), 4);
            due.is("the second ward, for " + number, x.family(number, 2), 6);
            due.is("none behind, for " + number, x.family(number, 3), 0);
        }
        Rows y = Rows.of(0, 0, 0);
        y.reader(0, 3);
        y.reader(0, 2);
        y.join(3, 1);
        y.join(2, 1);
        due.is("by numbers, not by joins", y.family(1, 1), 4);
        due.is("by numbers, not by joins", y.family(1, 2), 5);
    }

    private static void familyRefused() {
        due.says("Promise 14", "0 if there is none such");
        Rows x = Rows.of(0);
        due.is("alone", x.family(1, 1), 0);
        x.reader(0, 1);
        due.is("the last", x.family(1, 1), 2);
        for (int i : new int[] {-1, 2, 60, 61, Integer.MIN_VALUE, Integer.MAX_VALUE}) {
            due.is("i " + i, x.family(1, i), 0);
            due.is("i " + i + " for the ward", x.family(2, i), 0);
        }
        for (int number : new int[] {0, -1, 3, 60, 61, Integer.MIN_VALUE, Integer.MAX_VALUE}) {
            due.is("reader " + number, x.family(number, 0), 0);
            due.is("reader " + number, x.family(number, 1), 0);
        }
    }

    private static void about() {
        due.says("Promise 18", "0: its kind");
        Rows x = Rows.of(4);
        x.reader(0, 1);
        due.is("4", x.about(1, 0), 4);
        due.is("0", x.about(2, 0), 0);
        due.says("Promise 18", "1: its guardian, or 0");
        due.is("none", x.about(1, 1), 0);
        due.is("1", x.about(2, 1), 1);
        due.says("Promise 18", "2: how many cards");
        due.is("none", x.about(2, 2), 0);
        x.card(2, 5);
        due.is("one", x.about(2, 2), 1);
        x.lost(5, 6);
        due.is("a LOST one, too", x.about(2, 2), 2);
        due.is("not the ward's", x.about(1, 2), 0);
        due.says("Promise 18", "3: 1 if its consent is given, else 0");
        due.is("not at first", x.about(2, 3), 0);
        x.consent(2, true, 0);
        due.is("given", x.about(2, 3), 1);
        due.is("not the ward's", x.about(1, 3), 0);
        x.consent(2, false, 0);
        due.is("taken back", x.about(2, 3), 0);
        due.says("Promise 18", "4: how many loans that are not ANONYMOUS");
        due.is("none", x.about(2, 4), 0);
        x.loan(2, 1, 0, 0);
        x.loan(2, 1, 0, 1);
        due.is("two of one item", x.about(2, 4), 2);
        due.is("not the ward's", x.about(1, 4), 0);
        x.anonymise(31);
        due.is("one is ANONYMOUS", x.about(2, 4), 1);
        x.keeps(0, 0);
        due.is("not KEPT is not ANONYMOUS", x.about(2, 4), 1);
        x.anonymise(2);
        due.is("both are", x.about(2, 4), 0);
    }

    private static void aboutRefused() {
        due.says("Promise 18", "NONE if there is none such");
        Rows x = Rows.of(4);
        for (int number : new int[] {0, -1, 2, 60, 61, Integer.MIN_VALUE, Integer.MAX_VALUE}) {
            for (int what = -1; what <= 5; what++) {
                due.is("about(" + number + ", " + what + ")", x.about(number, what), -1);
            }
        }
        due.says("Promise 18", "or for another what");
        for (int what : new int[] {-1, 5, 6, 256, Integer.MIN_VALUE, Integer.MAX_VALUE}) {
            due.is("about(1, " + what + ")", x.about(1, what), -1);
        }
        due.is("about(1, 0)", x.about(1, 0), 4);
        due.is("about(1, 4)", x.about(1, 4), 0);
    }
}
