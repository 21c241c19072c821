/** The sentences of promises 6 and 7: blocks, and who is blocked. */
public final class BlockSentencesTest {
    private static final Due due = new Due();
    private static final long LAST_DAY = Rows.LAST_DAY;
    private static final int[] NO_READERS = {0, -1, 3, 60, 61, Integer.MIN_VALUE, Integer.MAX_VALUE};

    public static void main(String[] args) {
        block();
        blockRefused();
        leastSort();
        itsGuardian();
        anyLong();
        blockedNone();
        due.end("BlockSentencesTest");
    }

    private static void block() {
        due.says("Promise 6", "A BLOCK of a sort until a day: 1");
        Rows x = Rows.of(0, 0);
        due.is("sort 0 until 0", x.block(2, 0, 0), 1);
        due.is("on that day", x.blocked(2, 0), 0);
        due.is("a day more", x.blocked(2, 1), -1);
        due.is("sort 5 until the last day", x.block(2, 5, LAST_DAY), 1);
        due.is("on that day", x.blocked(2, LAST_DAY), 5);
        due.is("a day more", x.blocked(2, LAST_DAY + 1), -1);
        due.is("another reader has none", x.blocked(1, 0), -1);
        due.says("Promise 6", "in place of the one of that sort");
        due.is("a later end", x.block(2, 0, 10), 1);
        due.is("the later end", x.blocked(2, 10), 0);
        due.is("an earlier end", x.block(2, 0, 5), 1);
        due.is("the earlier end", x.blocked(2, 5), 0);
        due.is("not the later one", x.blocked(2, 6), 5);
        due.is("the same end", x.block(2, 0, 5), 1);
    }

    private static void blockRefused() {
        due.says("Promise 6", "0 if there is no such reader, sort or day");
        Rows x = Rows.of(0, 0);
        x.block(1, 3, 10);
        for (int number : NO_READERS) {
            due.is("reader " + number, x.block(number, 0, 0), 0);
        }
        for (int sort : new int[] {-1, 6, 7, Integer.MIN_VALUE, Integer.MAX_VALUE}) {
            due.is("sort " + sort, x.block(1, sort, 20), 0);
            due.is("sort " + sort, x.block(2, sort, 20), 0);
        }
        for (long day : Rows.NO_DAYS) {
            due.is("day " + day, x.block(1, 3, day), 0);
        }
        due.is("the one before stays", x.blocked(1, 10), 3);
        due.is("with its end", x.blocked(1, 11), -1);
        due.is("none came to the other reader", x.blocked(2, Long.MIN_VALUE), -1);
    }

    private static void leastSort() {
        due.says("Promise 7", "The least sort of which a reader has a BLOCK that lasts on a day");
        Rows x = Rows.of(0);
        for (int sort = 0; sort <= 5; sort++) {
            x.block(1, sort, sort * 10);
        }
        for (int sort = 0; sort <= 5; sort++) {
            due.is("on " + sort * 10, x.blocked(1, sort * 10), sort);
            due.is("on " + (sort * 10 + 1), x.blocked(1, sort * 10 + 1), sort == 5 ? -1 : sort + 1);
        }
    }

    private static void itsGuardian() {
        due.says("Promise 7", "a reader, or its guardian");
        Rows x = Rows.of(0, 0);
        x.reader(0, 1);
        x.reader(0, 1);
        x.block(1, 3, 10);
        x.block(3, 4, 20);
        due.is("the guardian's is less", x.blocked(3, 10), 3);
        due.is("the guardian's is over", x.blocked(3, 11), 4);
        due.is("both are over", x.blocked(3, 21), -1);
        x.block(3, 2, 5);
        due.is("its own is less", x.blocked(3, 5), 2);
        due.is("not the ward's for the guardian", x.blocked(1, 5), 3);
        due.is("not the ward's for the guardian", x.blocked(1, 11), -1);
        due.is("not the ward's for another ward", x.blocked(4, 11), -1);
        due.is("the guardian's for another ward", x.blocked(4, 10), 3);
        due.is("nor for another reader", x.blocked(2, 0), -1);
        x.block(1, 4, 30);
        due.is("of one sort, the guardian's is longer", x.blocked(3, 30), 4);
        x.join(3, 2);
        due.is("joined away, the guardian's counts no more", x.blocked(3, 21), -1);
    }

    private static void anyLong() {
        due.says("Promise 7", "on a day (any long)");
        Rows x = Rows.of(0, 0);
        x.block(1, 1, 0);
        x.block(1, 5, LAST_DAY);
        due.is("the least long", x.blocked(1, Long.MIN_VALUE), 1);
        due.is("day -1", x.blocked(1, -1), 1);
        due.is("day -2", x.blocked(1, -2), 1);
        due.is("day 0", x.blocked(1, 0), 1);
        due.is("the last day", x.blocked(1, LAST_DAY), 5);
        due.is("a day more", x.blocked(1, LAST_DAY + 1), -1);
        due.is("a long whose lower half is 0", x.blocked(1, 1L << 32), -1);
        due.is("the greatest long", x.blocked(1, Long.MAX_VALUE), -1);
        due.is("no block on the least long", x.blocked(2, Long.MIN_VALUE), -1);
        due.is("no block on day -1", x.blocked(2, -1), -1);
    }

    private static void blockedNone() {
        due.says("Promise 7", "NONE if there is none, or no such reader");
        Rows x = Rows.of(0, 0);
        due.is("none at first", x.blocked(1, 0), -1);
        x.block(1, 0, 7);
        due.is("one", x.blocked(1, 7), 0);
        due.is("none any more", x.blocked(1, 8), -1);
        for (int number : NO_READERS) {
            due.is("reader " + number, x.blocked(number, 0), -1);
        }
    }
}
