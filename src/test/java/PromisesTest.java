/** Each promise of the document with ordinary inputs, the edges that it names, and wrong inputs. */
public final class PromisesTest {
    private static final Due due = new Due();
    private static final int NO_ITEM = -1000000007;
    private static final long LAST_DAY = 1000000000L;

    public static void main(String[] args) {
        promise1NewObject();
        promise2Reader();
        promise2ReaderJoinedGuardian();
        promise3Card();
        promise3CardAll();
        promise4Whose();
        promise5Lost();
        promise6Block();
        promise7Blocked();
        promise8Consent();
        promise9Keeps();
        promise10Loan();
        promise11Kept();
        promise12Anonymise();
        promise13JoinMovesAll();
        promise13JoinChain();
        promise13JoinRefusals();
        promise14Family();
        promise15Sign();
        promise16Import();
        promise16ImportMisfits();
        promise16ImportFull();
        promise17Like();
        promise17LikeEdges();
        promise18About();
        promise19Statistics();
        due.end("PromisesTest");
    }

    private static void collect(ReaderRows x, String signs) {
        for (int i = 0; i < signs.length(); i++) {
            x.sign(signs.charAt(i));
        }
    }

    private static int importRow(ReaderRows x, String signs) {
        collect(x, signs);
        return x.import0();
    }

    private static int like(ReaderRows x, String signs) {
        collect(x, signs);
        return x.like();
    }

    private static ReaderRows withReaders(int... kinds) {
        ReaderRows x = new ReaderRows();
        for (int kind : kinds) {
            x.reader(kind, 0);
        }
        return x;
    }

    private static void promise1NewObject() {
        ReaderRows x = new ReaderRows();
        due.is("1 NONE", ReaderRows.NONE, -1);
        due.is("1 about(1, 0)", x.about(1, 0), -1);
        due.is("1 about(0, 0)", x.about(0, 0), -1);
        due.is("1 whose(0)", x.whose(0), 0);
        due.is("1 family(1, 0)", x.family(1, 0), 0);
        due.is("1 kept(1, 0, 0)", x.kept(1, 0, 0), NO_ITEM);
        due.is("1 blocked(1, 0)", x.blocked(1, 0), -1);
        due.is("1 anonymise(LAST_DAY)", x.anonymise(LAST_DAY), 0);
        due.is("1 statistics(0, all)", x.statistics(0, Long.MIN_VALUE, Long.MAX_VALUE), 0);
        due.is("1 import0()", x.import0(), -100);
        due.is("1 like()", x.like(), 0);
        for (int kind = 0; kind < 5; kind++) {
            due.is("1 keeps(" + kind + ", 1)", x.keeps(kind, 1), 30);
        }
        ReaderRows other = new ReaderRows();
        x.reader(0, 0);
        x.sign('a');
        due.is("1 another object has no reader", other.about(1, 0), -1);
        due.is("1 another object has no signs", importRow(other, "b 0 1"), 1);
        due.is("1 another object's days", other.keeps(0, 2), 30);
    }

    private static void promise2Reader() {
        ReaderRows x = new ReaderRows();
        due.is("2 kind -1", x.reader(-1, 0), 0);
        due.is("2 kind 5", x.reader(5, 0), 0);
        due.is("2 kind MIN", x.reader(Integer.MIN_VALUE, 0), 0);
        due.is("2 guardian itself", x.reader(0, 1), 0);
        due.is("2 kind 0", x.reader(0, 0), 1);
        due.is("2 kind 4, guardian 1", x.reader(4, 1), 2);
        due.is("2 guardian with guardian", x.reader(1, 2), 0);
        due.is("2 guardian not yet there", x.reader(1, 3), 0);
        due.is("2 guardian -1", x.reader(1, -1), 0);
        due.is("2 guardian MAX", x.reader(1, Integer.MAX_VALUE), 0);
        due.is("2 guardian MIN", x.reader(1, Integer.MIN_VALUE), 0);
        due.is("2 guardian 61", x.reader(1, 61), 0);
        for (int number = 3; number <= 60; number++) {
            due.is("2 reader " + number, x.reader(number % 5, 0), number);
        }
        due.is("2 reader 61", x.reader(0, 0), 0);
        due.is("2 reader 61 with guardian", x.reader(0, 1), 0);
        due.is("2 join at 60", x.join(60, 59), 1);
        due.is("2 joined numbers are not free", x.reader(0, 0), 0);
        due.is("2 kind of 58", x.about(58, 0), 3);
        due.is("2 about(61, 0)", x.about(61, 0), -1);
    }

    private static void promise2ReaderJoinedGuardian() {
        ReaderRows x = withReaders(0, 1, 2);
        x.reader(3, 1);
        x.join(2, 3);
        due.is("2 guardian that was joined", x.reader(0, 2), 5);
        due.is("2 its guardian is the other", x.about(5, 1), 3);
        x.join(2, 4);
        due.is("2 refused join leaves the guardian", x.about(5, 1), 3);
        ReaderRows y = withReaders(0, 1);
        y.reader(2, 1);
        y.join(2, 3);
        due.is("2 joined into a ward: no guardian", y.reader(0, 2), 0);
    }

    private static void promise3Card() {
        ReaderRows x = withReaders(0, 0);
        due.is("3 no reader 0", x.card(0, 1), 0);
        due.is("3 no reader 3", x.card(3, 1), 0);
        due.is("3 no reader -1", x.card(-1, 1), 0);
        due.is("3 card 0", x.card(1, 0), 1);
        due.is("3 card -1", x.card(1, -1), 2);
        due.is("3 its own", x.card(1, 0), -1);
        due.is("3 another's", x.card(2, 0), -1);
        due.is("3 card MIN", x.card(1, Integer.MIN_VALUE), 3);
        due.is("3 card MAX", x.card(1, Integer.MAX_VALUE), 4);
        due.is("3 a fifth by loss", x.lost(0, 7), 1);
        due.is("3 a sixth", x.card(1, 8), 0);
        due.is("3 has 5 and the card is somebody's", x.card(1, 7), 0);
        due.is("3 a refused card is nobody's", x.whose(8), 0);
        due.is("3 a lost card is somebody's", x.card(2, 0), -1);
        due.is("3 the refused card", x.card(2, 8), 1);
    }

    private static void promise3CardAll() {
        ReaderRows x = new ReaderRows();
        for (int number = 1; number <= 60; number++) {
            x.reader(0, 0);
            for (int c = 1; c <= 5; c++) {
                due.is("3 card " + c + " of " + number, x.card(number, number * 10 + c), c);
            }
        }
        due.is("3 all cards: nobody's", x.whose(7), 0);
        due.is("3 all cards: the last", x.whose(605), 60);
        due.is("3 all cards: how many", x.about(60, 2), 5);
        due.is("3 all cards: join", x.join(60, 1), 1);
        due.is("3 all cards: the last is the other's", x.whose(605), 1);
        due.is("3 all cards: none more", x.card(60, 7), 0);
        due.is("3 all cards: none in place", x.lost(605, 7), -2);
    }

    private static void promise4Whose() {
        ReaderRows x = withReaders(0, 0, 0);
        x.card(2, 40);
        x.card(1, 41);
        due.is("4 good", x.whose(40), 2);
        due.is("4 good of 1", x.whose(41), 1);
        due.is("4 nobody's", x.whose(42), 0);
        due.is("4 nobody's 0", x.whose(0), 0);
        x.lost(40, 42);
        due.is("4 LOST", x.whose(40), 0);
        due.is("4 in place of it", x.whose(42), 2);
        x.join(2, 3);
        due.is("4 joined", x.whose(42), 3);
        due.is("4 LOST stays so", x.whose(40), 0);
    }

    private static void promise5Lost() {
        ReaderRows x = withReaders(0, 0);
        x.card(1, 10);
        x.card(2, 20);
        due.is("5 nobody's", x.lost(11, 12), 0);
        due.is("5 nobody's, new one somebody's", x.lost(11, 10), 0);
        due.is("5 in place of itself", x.lost(10, 10), -1);
        due.is("5 new one is another's", x.lost(10, 20), -1);
        due.is("5 refused: still good", x.whose(10), 1);
        due.is("5 lost", x.lost(10, 11), 1);
        due.is("5 the old one counts", x.about(1, 2), 2);
        due.is("5 not good", x.lost(10, 12), 0);
        due.is("5 new one is a LOST one", x.lost(11, 10), -1);
        due.is("5 again", x.lost(11, 12), 1);
        due.is("5 again", x.lost(12, 13), 1);
        due.is("5 the fifth", x.lost(13, 14), 1);
        due.is("5 has 5", x.lost(14, 15), -2);
        due.is("5 has 5: still good", x.whose(14), 1);
        due.is("5 has 5: new one nobody's", x.whose(15), 0);
        due.is("5 has 5, new one somebody's", x.lost(14, 20), -1);
        due.is("5 has 5, old one LOST", x.lost(13, 15), 0);
        x.join(1, 2);
        due.is("5 joined: beyond 5", x.lost(20, 15), -2);
        due.is("5 joined: six", x.about(2, 2), 6);
    }

    private static void promise6Block() {
        ReaderRows x = withReaders(0);
        due.is("6 no reader 0", x.block(0, 0, 0), 0);
        due.is("6 no reader 2", x.block(2, 0, 0), 0);
        due.is("6 sort -1", x.block(1, -1, 0), 0);
        due.is("6 sort 6", x.block(1, 6, 0), 0);
        due.is("6 sort MAX", x.block(1, Integer.MAX_VALUE, 0), 0);
        due.is("6 day -1", x.block(1, 0, -1), 0);
        due.is("6 day above", x.block(1, 0, LAST_DAY + 1), 0);
        due.is("6 day MIN", x.block(1, 0, Long.MIN_VALUE), 0);
        due.is("6 none was made", x.blocked(1, Long.MIN_VALUE), -1);
        due.is("6 sort 5 until 0", x.block(1, 5, 0), 1);
        due.is("6 it lasts on 0", x.blocked(1, 0), 5);
        due.is("6 sort 0 until the last day", x.block(1, 0, LAST_DAY), 1);
        due.is("6 it lasts on the last day", x.blocked(1, LAST_DAY), 0);
        due.is("6 an earlier end in place of it", x.block(1, 0, 7), 1);
        due.is("6 the earlier end", x.blocked(1, 8), -1);
    }

    private static void promise7Blocked() {
        ReaderRows x = withReaders(0);
        x.reader(0, 1);
        x.reader(0, 1);
        x.block(1, 4, 10);
        x.block(2, 2, 5);
        x.block(2, 5, 20);
        due.is("7 both", x.blocked(2, 5), 2);
        due.is("7 the guardian's", x.blocked(2, 6), 4);
        due.is("7 its own", x.blocked(2, 11), 5);
        due.is("7 none any more", x.blocked(2, 21), -1);
        due.is("7 not the ward's", x.blocked(1, 5), 4);
        due.is("7 not the other ward's", x.blocked(3, 11), -1);
        due.is("7 day MIN", x.blocked(2, Long.MIN_VALUE), 2);
        due.is("7 day MAX", x.blocked(2, Long.MAX_VALUE), -1);
        due.is("7 no reader 0", x.blocked(0, 0), -1);
        due.is("7 no reader 4", x.blocked(4, 0), -1);
        ReaderRows y = withReaders(0, 0);
        due.is("7 no block on day -1", y.blocked(1, -1), -1);
        due.is("7 no block on day MIN", y.blocked(2, Long.MIN_VALUE), -1);
        y.block(2, 0, 5);
        due.is("7 not the next reader's", y.blocked(1, 5), -1);
        y.block(1, 5, 5);
        due.is("7 not the reader's before", y.blocked(2, 5), 0);
    }

    private static void promise8Consent() {
        ReaderRows x = withReaders(0, 1);
        x.loan(1, 11, 0, 10);
        x.loan(1, 12, 0, 11);
        x.loan(2, 13, 0, 10);
        due.is("8 no reader", x.consent(3, true, 0), -1);
        due.is("8 no reader 0", x.consent(0, false, 0), -1);
        due.is("8 no day -1", x.consent(1, true, -1), -1);
        due.is("8 no day above", x.consent(1, true, LAST_DAY + 1), -1);
        due.is("8 not given by that", x.about(1, 3), 0);
        due.is("8 none was given", x.consent(1, false, 500), 0);
        due.is("8 nothing is ANONYMOUS by that", x.about(1, 4), 2);
        due.is("8 given", x.consent(1, true, 500), 0);
        due.is("8 given again", x.consent(1, true, LAST_DAY), 0);
        due.is("8 kept by consent", x.kept(1, 0, LAST_DAY), 11);
        due.is("8 taken back on no day", x.consent(1, false, LAST_DAY + 1), -1);
        due.is("8 still given", x.about(1, 3), 1);
        due.is("8 taken back", x.consent(1, false, 41), 1);
        due.is("8 not given any more", x.about(1, 3), 0);
        due.is("8 the other one stays", x.kept(1, 0, 0), 12);
        due.is("8 another reader's stay", x.about(2, 4), 1);
        due.is("8 taken back twice", x.consent(1, false, 1000), 0);
        x.consent(1, true, 0);
        due.is("8 ANONYMOUS stays so", x.kept(1, 1, 0), NO_ITEM);
        due.is("8 only new ones count", x.consent(1, false, LAST_DAY), 1);
        ReaderRows y = withReaders(3);
        y.keeps(3, 0);
        y.loan(1, 1, 4, 4);
        y.loan(1, 2, 4, 5);
        y.consent(1, true, 0);
        due.is("8 by the days of its KIND", y.consent(1, false, 5), 1);
    }

    private static void promise9Keeps() {
        ReaderRows x = withReaders(2, 3);
        due.is("9 kind -1", x.keeps(-1, 5), -1);
        due.is("9 kind 5", x.keeps(5, 5), -1);
        due.is("9 kind MAX", x.keeps(Integer.MAX_VALUE, 5), -1);
        due.is("9 days -1", x.keeps(2, -1), -1);
        due.is("9 days 100001", x.keeps(2, 100001), -1);
        due.is("9 first", x.keeps(2, 100000), 30);
        due.is("9 was the most", x.keeps(2, 0), 100000);
        due.is("9 was none", x.keeps(2, 3), 0);
        due.is("9 another kind", x.keeps(3, 4), 30);
        x.loan(1, 21, 0, 10);
        x.loan(2, 22, 0, 10);
        due.is("9 by kind 2", x.kept(1, 0, 13), 21);
        due.is("9 by kind 2, a day more", x.kept(1, 0, 14), NO_ITEM);
        due.is("9 by kind 3", x.kept(2, 0, 14), 22);
        x.keeps(2, 100);
        due.is("9 more days again", x.kept(1, 0, 110), 21);
    }

    private static void promise10Loan() {
        ReaderRows x = withReaders(0);
        due.is("10 no reader", x.loan(2, 1, 0, 0), 0);
        due.is("10 no reader 0", x.loan(0, 1, 0, 0), 0);
        due.is("10 from -1", x.loan(1, 1, -1, 0), 0);
        due.is("10 to above", x.loan(1, 1, 0, LAST_DAY + 1), 0);
        due.is("10 both above", x.loan(1, 1, LAST_DAY + 1, LAST_DAY + 1), 0);
        due.is("10 both below", x.loan(1, 1, -5, -4), 0);
        due.is("10 from above to", x.loan(1, 1, 2, 1), 0);
        due.is("10 the first", x.loan(1, 1, 0, 0), 1);
        due.is("10 the longest", x.loan(1, Integer.MIN_VALUE, 0, LAST_DAY), 2);
        due.is("10 the last day", x.loan(1, 3, LAST_DAY, LAST_DAY), 3);
        for (int number = 4; number <= 200; number++) {
            due.is("10 loan " + number, x.loan(1, number, 5, 6), number);
        }
        due.is("10 a loan more", x.loan(1, 1, 5, 6), 0);
        due.is("10 how many", x.about(1, 4), 200);
        due.is("10 the last in order", x.kept(1, 199, 0), 3);
        due.is("10 all in a join", x.join(x.reader(1, 0), 1), 1);
        x.reader(1, 0);
        due.is("10 all in a join", x.join(1, 3), 1);
        due.is("10 all are the other's", x.about(3, 4), 200);
        x.consent(1, true, 0);
        due.is("10 none by consent", x.anonymise(LAST_DAY), 0);
        due.is("10 taken back", x.consent(1, false, 36), 1);
        due.is("10 a day more", x.anonymise(37), 197);
        due.is("10 ANONYMOUS ones count among 200", x.loan(1, 1, 5, 6), 0);
    }

    private static void promise11Kept() {
        ReaderRows x = withReaders(0, 0);
        x.loan(1, 5, 3, 9);
        x.loan(1, 4, 0, 8);
        x.loan(2, 3, 0, 1);
        x.loan(1, 2, 9, 9);
        x.loan(1, -7, 2, 8);
        x.loan(1, 0, 0, 100);
        int[] items = {4, -7, 5, 2, 0};
        for (int i = 0; i < items.length; i++) {
            due.is("11 kept(1, " + i + ", 38)", x.kept(1, i, 38), items[i]);
            due.is("11 kept(1, " + i + ", MIN)", x.kept(1, i, Long.MIN_VALUE), items[i]);
        }
        due.is("11 beyond", x.kept(1, 5, 38), NO_ITEM);
        due.is("11 i -1", x.kept(1, -1, 38), NO_ITEM);
        due.is("11 i MAX", x.kept(1, Integer.MAX_VALUE, 38), NO_ITEM);
        due.is("11 i MIN", x.kept(1, Integer.MIN_VALUE, 38), NO_ITEM);
        due.is("11 the others' days are over", x.kept(1, 0, 39), 5);
        due.is("11 then", x.kept(1, 2, 39), 0);
        due.is("11 another reader", x.kept(2, 0, 31), 3);
        due.is("11 over", x.kept(2, 0, 32), NO_ITEM);
        due.is("11 day MAX", x.kept(1, 0, Long.MAX_VALUE), NO_ITEM);
        due.is("11 no reader", x.kept(3, 0, 0), NO_ITEM);
        due.is("11 no reader 0", x.kept(0, 0, 0), NO_ITEM);
        x.consent(2, true, 0);
        due.is("11 by consent, day MAX", x.kept(2, 0, Long.MAX_VALUE), 3);
        due.is("11 kept() changes nothing", x.about(1, 4), 5);
        x.keeps(0, 100000);
        x.loan(1, 6, LAST_DAY, LAST_DAY);
        due.is("11 beyond the last day", x.kept(1, 0, LAST_DAY + 100000), 6);
        due.is("11 a day more", x.kept(1, 0, LAST_DAY + 100001), NO_ITEM);
    }

    private static void promise12Anonymise() {
        ReaderRows x = withReaders(0, 1, 1);
        x.loan(1, 1, 0, 10);
        x.loan(2, 2, 0, 10);
        x.loan(2, 3, 0, 20);
        x.loan(3, 4, 0, 0);
        x.consent(3, true, 0);
        due.is("12 day -1", x.anonymise(-1), -1);
        due.is("12 day above", x.anonymise(LAST_DAY + 1), -1);
        due.is("12 day 40", x.anonymise(40), 0);
        due.is("12 day 41", x.anonymise(41), 2);
        due.is("12 not twice", x.anonymise(41), 0);
        due.is("12 of 1", x.about(1, 4), 0);
        due.is("12 of 2", x.kept(2, 0, 0), 3);
        due.is("12 the last day", x.anonymise(LAST_DAY), 1);
        due.is("12 consent keeps", x.kept(3, 0, 0), 4);
        x.keeps(0, 100000);
        x.consent(1, true, 0);
        due.is("12 kept for nobody, whatever comes", x.kept(1, 0, 0), NO_ITEM);
        x.join(1, 3);
        due.is("12 nor after a join", x.about(3, 4), 1);
    }

    private static void promise13JoinMovesAll() {
        ReaderRows x = withReaders(1, 2);
        x.reader(0, 1);
        x.reader(0, 1);
        for (int c = 0; c < 5; c++) {
            x.card(1, c);
            x.card(2, 10 + c);
        }
        x.block(1, 0, 6);
        x.block(2, 0, 5);
        x.block(1, 1, 7);
        x.block(2, 1, 8);
        x.block(1, 2, 9);
        x.block(2, 3, 10);
        x.loan(1, 70, 0, 5);
        x.loan(2, 71, 0, 4);
        x.consent(1, true, 0);
        due.is("13 joined", x.join(1, 2), 1);
        due.is("13 kind stays", x.about(1, 0), 2);
        due.is("13 consent stays", x.about(1, 3), 0);
        due.is("13 no guardian", x.about(2, 1), 0);
        due.is("13 cards beyond 5", x.about(2, 2), 10);
        due.is("13 cards by the old number", x.about(1, 2), 10);
        due.is("13 no card more", x.card(1, 99), 0);
        due.is("13 whose", x.whose(3), 2);
        due.is("13 the one's later end", x.blocked(2, 6), 0);
        due.is("13 the other's later end", x.blocked(2, 8), 1);
        due.is("13 the one's only", x.blocked(1, 9), 2);
        due.is("13 the other's only", x.blocked(2, 10), 3);
        due.is("13 no block beyond", x.blocked(2, 11), -1);
        due.is("13 loans", x.kept(2, 0, 0), 71);
        due.is("13 loans", x.kept(1, 1, 0), 70);
        due.is("13 loans by the other's consent", x.kept(2, 0, 36), NO_ITEM);
        due.is("13 ward's guardian", x.about(3, 1), 2);
        due.is("13 ward's guardian", x.about(4, 1), 2);
        due.is("13 family", x.family(1, 0), 2);
        due.is("13 family", x.family(4, 1), 3);
        due.is("13 family", x.family(3, 2), 4);
        due.is("13 family", x.family(3, 3), 0);
        due.is("13 joined already", x.join(1, 2), 0);
        due.is("13 both are one", x.join(2, 1), 0);
    }

    private static void promise13JoinChain() {
        ReaderRows x = withReaders(0, 1, 2, 3);
        x.card(1, 5);
        x.loan(1, 50, 0, 0);
        x.join(1, 2);
        x.join(2, 3);
        due.is("13 chain kind", x.about(1, 0), 2);
        due.is("13 chain card", x.whose(5), 3);
        due.is("13 chain card()", x.card(1, 6), 2);
        due.is("13 chain whose", x.whose(6), 3);
        due.is("13 chain lost", x.lost(5, 7), 3);
        due.is("13 chain block", x.block(2, 4, 9), 1);
        due.is("13 chain blocked", x.blocked(3, 9), 4);
        due.is("13 chain loan", x.loan(2, 51, 0, 1), 2);
        due.is("13 chain kept", x.kept(3, 1, 0), 51);
        due.is("13 chain consent", x.consent(1, true, 0), 0);
        due.is("13 chain about", x.about(3, 3), 1);
        due.is("13 joining the old number joins the reader", x.join(1, 4), 1);
        due.is("13 then all are 4", x.about(3, 0), 3);
        due.is("13 then all are 4", x.family(2, 0), 4);
        ReaderRows y = withReaders(0, 1, 2);
        y.join(2, 3);
        due.is("13 into a joined one", y.join(1, 2), 1);
        due.is("13 is the last one", y.about(1, 0), 2);
        ReaderRows z = withReaders(4, 1);
        z.reader(2, 1);
        z.join(3, 2);
        z.loan(3, 9, 0, 0);
        due.is("13 a ward joined away has no guardian by it", z.about(3, 1), 0);
        due.is("13 nor is it in the family", z.family(1, 1), 0);
        due.is("13 loans are told of the kind of the other", z.statistics(1, 0, 0), 1);
    }

    private static void promise13JoinRefusals() {
        ReaderRows x = withReaders(0, 0);
        x.reader(0, 1);
        x.reader(0, 2);
        due.is("13 no reader", x.join(5, 1), 0);
        due.is("13 no other", x.join(1, 5), 0);
        due.is("13 reader 0", x.join(0, 1), 0);
        due.is("13 other 0", x.join(1, 0), 0);
        due.is("13 both MIN", x.join(Integer.MIN_VALUE, Integer.MIN_VALUE), 0);
        due.is("13 itself", x.join(1, 1), 0);
        due.is("13 into its ward", x.join(1, 3), 0);
        due.is("13 guardian into another's ward", x.join(1, 4), 0);
        due.is("13 refused: still itself", x.family(1, 0), 1);
        due.is("13 refused: still its ward", x.about(3, 1), 1);
        due.is("13 ward into its guardian", x.join(3, 1), 1);
        due.is("13 ward that was is the guardian", x.family(3, 0), 1);
        due.is("13 no wards any more", x.family(1, 1), 0);
        due.is("13 into another's ward, without wards", x.join(1, 4), 1);
        due.is("13 it has that guardian", x.about(1, 1), 2);
        due.is("13 its first ward, too", x.about(3, 1), 2);
        due.is("13 guardian into its ward", x.join(2, 3), 0);
        ReaderRows y = withReaders(0, 0);
        y.reader(0, 1);
        y.reader(0, 1);
        due.is("13 ward into ward", y.join(3, 4), 1);
        due.is("13 once in the family", y.family(1, 1), 4);
        due.is("13 once in the family", y.family(1, 2), 0);
    }

    private static void promise14Family() {
        ReaderRows x = withReaders(0, 0);
        x.reader(0, 2);
        x.reader(0, 1);
        x.reader(0, 2);
        x.reader(0, 2);
        int[] family = {2, 3, 5, 6, 0};
        for (int i = 0; i < family.length; i++) {
            due.is("14 family(2, " + i + ")", x.family(2, i), family[i]);
            due.is("14 family(5, " + i + ")", x.family(5, i), family[i]);
        }
        due.is("14 family(1, 1)", x.family(1, 1), 4);
        due.is("14 i -1", x.family(2, -1), 0);
        due.is("14 i MIN", x.family(2, Integer.MIN_VALUE), 0);
        due.is("14 i MAX", x.family(2, Integer.MAX_VALUE), 0);
        due.is("14 no reader 0", x.family(0, 0), 0);
        due.is("14 no reader 0", x.family(0, 1), 0);
        due.is("14 no reader 7", x.family(7, 0), 0);
    }

    private static void promise15Sign() {
        ReaderRows x = new ReaderRows();
        String row = "ann 2 5";
        for (int i = 0; i < row.length(); i++) {
            x.sign(row.charAt(i) | (i % 2 == 0 ? 0x7fffff00 : 0xffffff00));
        }
        due.is("15 the lowest eight bits", x.import0(), 1);
        due.is("15 kind", x.about(1, 0), 2);
        x.sign('a' + 128);
        due.is("15 the eighth bit counts", x.import0(), -100);
        for (int i = 0; i < 100; i++) {
            x.sign('a');
        }
        due.is("15 many signs", x.import0(), -112);
        for (int i = 0; i < 100; i++) {
            x.sign('a');
        }
        due.is("15 many signs are no NAME", x.like(), 0);
        due.is("15 nothing is left of them", importRow(x, "bo 1 7"), 2);
    }

    private static void promise16Import() {
        ReaderRows x = withReaders(0);
        due.is("16 shortest", importRow(x, "a 0 0"), 2);
        due.is("16 longest", importRow(x, "abcdefghijkl 4 99999"), 3);
        due.is("16 kind of the longest", x.about(3, 0), 4);
        due.is("16 no guardian", x.about(3, 1), 0);
        due.is("16 no consent", x.about(3, 3), 0);
        due.is("16 known, of another kind", importRow(x, "a 3 0"), -2);
        due.is("16 the kind stays", x.about(2, 0), 0);
        due.is("16 zeros before the year", importRow(x, "a 1 00000"), -2);
        due.is("16 another year", importRow(x, "a 1 1"), 4);
        due.is("16 letters of a and z", importRow(x, "za 1 10"), 5);
        due.is("16 another name of that length", importRow(x, "zb 1 10"), 6);
        due.is("16 a name that begins so", importRow(x, "zbc 1 10"), 7);
        due.is("16 a name that ends so", importRow(x, "ya 1 10"), 8);
        due.is("16 year 100", importRow(x, "za 1 100"), 9);
        due.is("16 known", importRow(x, "abcdefghijkl 0 99999"), -3);
        due.is("16 known by its number", importRow(x, "za 0 0010"), -5);
        due.is("16 join", x.join(2, 1), 1);
        due.is("16 a JOINED one is not found", importRow(x, "a 1 0"), 10);
        due.is("16 nor does its NAME go over", importRow(x, "a 1 0"), -10);
        due.is("16 join", x.join(10, 5), 1);
        due.is("16 the other's NAME stays", importRow(x, "za 1 10"), -5);
    }

    private static void promise16ImportMisfits() {
        ReaderRows x = new ReaderRows();
        String[] rows = {"", "A", " ", "`", "{", "a", "aB 1 1", "a  1 1", "a ", "a 5", "a /", "a 1", "a 11", "a 1 ",
            "a 1  1", "a 1 a", "a 1 :", "a 1 /", "a 1 123456", "a 1 1 ", "a 1 12345 ", "a 1 1a", "abcdefghijkl", "abcdefghijklm 1 1",
            "abcdefghijkl 1 123456", "1 1 1", "a\u00e4 1 1", "a\u0000"};
        int[] places = {0, 0, 0, 0, 0, 1, 1, 2, 2, 2, 2, 3, 3, 4,
            4, 4, 4, 4, 9, 5, 9, 5, 12, 12,
            20, 0, 1, 1};
        for (int i = 0; i < rows.length; i++) {
            due.is("16 import of '" + rows[i] + "'", importRow(x, rows[i]), -100 - places[i]);
        }
        due.is("16 no reader came by that", x.about(1, 0), -1);
        due.is("16 nothing is collected any more", importRow(x, "a 1 12345"), 1);
    }

    private static void promise16ImportFull() {
        ReaderRows x = new ReaderRows();
        due.is("16 the first", importRow(x, "bob 1 1980"), 1);
        for (int number = 2; number <= 59; number++) {
            x.reader(0, 0);
        }
        due.is("16 the last", importRow(x, "evelynevelyn 1 1980"), 60);
        due.is("16 there are 60", importRow(x, "ann 1 1980"), 0);
        due.is("16 there are 60, a misfit", importRow(x, "ann 9 1980"), -104);
        due.is("16 there are 60, known", importRow(x, "evelynevelyn 2 1980"), -60);
        due.is("16 there are 60, nothing is collected", importRow(x, "bob 1 1980"), -1);
        due.is("16 what was refused has no NAME", like(x, "ann"), 1);
    }

    private static void promise17Like() {
        ReaderRows x = withReaders(0);
        importRow(x, "martin 0 1");
        importRow(x, "marten 0 1");
        importRow(x, "martin 0 2");
        importRow(x, "kit 0 2");
        due.is("17 the same, the first", like(x, "martin"), 2);
        due.is("17 the same", like(x, "marten"), 3);
        due.is("17 one changed", like(x, "martan"), 2);
        due.is("17 one put in", like(x, "martenn"), 3);
        due.is("17 one taken out", like(x, "maten"), 3);
        due.is("17 three changed", like(x, "xxxtin"), 2);
        due.is("17 four changed", like(x, "xxxxin"), 0);
        due.is("17 three put in", like(x, "amaratain"), 2);
        due.is("17 four put in", like(x, "amaratainx"), 0);
        due.is("17 two letters that changed places are two", like(x, "amrten"), 3);
        due.is("17 three to a single letter", like(x, "x"), 5);
        due.is("17 a letter of three", like(x, "t"), 5);
        due.is("17 three letters, all others", like(x, "xyz"), 5);
        due.is("17 four letters, all others", like(x, "wxyz"), 0);
        due.is("17 join", x.join(2, 1), 1);
        due.is("17 not a JOINED one", like(x, "martin"), 4);
        due.is("17 join", x.join(4, 3), 1);
        due.is("17 the nearest that is left", like(x, "martin"), 3);
    }

    private static void promise17LikeEdges() {
        ReaderRows x = withReaders(0);
        due.is("17 readers without NAMES", like(x, "abc"), 0);
        due.is("17 a letter, readers without NAMES", like(x, "a"), 0);
        importRow(x, "abcdefghijkl 0 1");
        due.is("17 longest", like(x, "abcdefghijkl"), 2);
        due.is("17 too long", like(x, "abcdefghijklm"), 0);
        due.is("17 empty", like(x, ""), 0);
        due.is("17 a space behind", like(x, "abcdefghijk "), 0);
        due.is("17 a digit", like(x, "abcdefghijk1"), 0);
        due.is("17 a great letter", like(x, "Abcdefghijkl"), 0);
        due.is("17 a whole row", like(x, "abcdefghijkl 0 1"), 0);
        due.is("17 nothing is collected any more", x.import0(), -100);
        due.is("17 nor after a NAME", like(x, "bcdefghijkl"), 2);
        due.is("17 nor after a NAME", x.import0(), -100);
        due.is("17 three taken out", like(x, "defghijkl"), 2);
        due.is("17 four taken out", like(x, "efghijkl"), 0);
        importRow(x, "b 0 1");
        due.is("17 one letter", like(x, "c"), 3);
        due.is("17 three letters around it", like(x, "xbyz"), 3);
        due.is("17 four letters, none of it", like(x, "wxyz"), 0);
        due.is("17 empty is no NAME, though one letter is near", like(x, ""), 0);
        ReaderRows y = new ReaderRows();
        importRow(y, "b 0 1");
        due.is("17 far and longer, at first", like(y, "abcdefgh"), 0);
        due.is("17 near", like(y, "abcd"), 1);
        due.is("17 far after near", like(y, "abcde"), 0);
    }

    private static void promise18About() {
        ReaderRows x = withReaders(3);
        x.reader(4, 1);
        x.card(2, 1);
        x.card(2, 2);
        x.lost(1, 3);
        x.consent(2, true, 0);
        x.loan(2, 1, 0, 0);
        x.loan(2, 1, 0, 50);
        x.loan(1, 1, 0, 0);
        int[] first = {3, 0, 0, 0, 1};
        int[] second = {4, 1, 3, 1, 2};
        for (int what = 0; what < 5; what++) {
            due.is("18 about(1, " + what + ")", x.about(1, what), first[what]);
            due.is("18 about(2, " + what + ")", x.about(2, what), second[what]);
            due.is("18 about(3, " + what + ")", x.about(3, what), -1);
            due.is("18 about(0, " + what + ")", x.about(0, what), -1);
        }
        due.is("18 what 5", x.about(1, 5), -1);
        due.is("18 what -1", x.about(1, -1), -1);
        due.is("18 what MIN", x.about(1, Integer.MIN_VALUE), -1);
        due.is("18 what MAX", x.about(1, Integer.MAX_VALUE), -1);
        x.consent(2, false, 60);
        due.is("18 consent taken back", x.about(2, 3), 0);
        due.is("18 not the ANONYMOUS one", x.about(2, 4), 1);
        due.is("18 not KEPT is not yet ANONYMOUS", x.about(1, 4), 1);
    }

    private static void promise19Statistics() {
        ReaderRows x = withReaders(0, 4, 0);
        x.loan(1, 1, 0, 9);
        x.loan(1, 2, 5, 9);
        x.loan(2, 3, 5, 9);
        x.loan(3, 4, 6, 9);
        x.loan(3, 5, LAST_DAY, LAST_DAY);
        due.is("19 all", x.statistics(0, Long.MIN_VALUE, Long.MAX_VALUE), 4);
        due.is("19 both belong to it", x.statistics(0, 5, 6), 2);
        due.is("19 one day", x.statistics(0, 5, 5), 1);
        due.is("19 between", x.statistics(0, 1, 4), 0);
        due.is("19 from above to", x.statistics(0, 6, 5), 0);
        due.is("19 kind 4", x.statistics(4, 0, 9), 1);
        due.is("19 kind 3", x.statistics(3, 0, 9), 0);
        due.is("19 kind -1", x.statistics(-1, 0, 9), -1);
        due.is("19 kind 5", x.statistics(5, 0, 9), -1);
        x.anonymise(LAST_DAY);
        due.is("19 ANONYMOUS ones too", x.statistics(0, 0, 6), 3);
        x.join(1, 2);
        due.is("19 the kind when it was told", x.statistics(0, 0, 6), 3);
        x.loan(1, 6, 0, 0);
        due.is("19 the kind of the other now", x.statistics(4, 0, 9), 2);
        due.is("19 nothing more of the old kind", x.statistics(0, 0, LAST_DAY), 4);
    }
}
