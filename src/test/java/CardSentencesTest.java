/** The sentences of promises 3 to 5: cards, whose they are, and lost ones. */
public final class CardSentencesTest {
    private static final Due due = new Due();
    private static final int[] NO_READERS = {0, -1, 3, 60, 61, Integer.MIN_VALUE, Integer.MAX_VALUE};

    public static void main(String[] args) {
        card();
        cardNoReader();
        cardOfFive();
        cardIsSomebodys();
        whose();
        lost();
        lostNotGood();
        lostIsSomebodys();
        lostOfFive();
        due.end("CardSentencesTest");
    }

    private static void card() {
        due.says("Promise 3", "A reader gets a card: how many it has");
        Rows x = Rows.of(0, 0);
        for (int c = 1; c <= 5; c++) {
            due.is("card " + c + " of 1", x.card(1, c), c);
            due.is("whose", x.whose(c), 1);
            due.is("card " + (10 + c) + " of 2", x.card(2, 10 + c), c);
            due.is("how many it has", x.about(1, 2), c);
        }
        Rows y = Rows.of(0);
        y.card(1, 1);
        y.lost(1, 2);
        due.is("LOST ones count", y.card(1, 3), 3);
    }

    private static void cardNoReader() {
        due.says("Promise 3", "0 if there is none such");
        Rows x = Rows.of(0, 0);
        for (int number : NO_READERS) {
            due.is("card of " + number, x.card(number, 7), 0);
            due.is("it is nobody's", x.whose(7), 0);
        }
        due.is("the last that is there", x.card(2, 7), 1);
        due.is("somebody's, of none such", x.card(3, 7), 0);
    }

    private static void cardOfFive() {
        due.says("Promise 3", "or it has 5");
        Rows x = Rows.of(0, 0);
        for (int c = 1; c <= 4; c++) {
            x.card(1, c);
        }
        due.is("a fifth", x.card(1, 5), 5);
        due.is("a sixth", x.card(1, 6), 0);
        due.is("its own", x.card(1, 5), 0);
        due.is("it has 5 still", x.about(1, 2), 5);
        due.is("the sixth is nobody's", x.whose(6), 0);
        due.is("the sixth for another reader", x.card(2, 6), 1);
        due.is("another's", x.card(1, 6), 0);
        Rows y = Rows.of(0);
        y.card(1, 1);
        for (int c = 1; c <= 4; c++) {
            due.is("lost " + c, y.lost(c, c + 1), 1);
        }
        due.is("four LOST ones and a good one are 5", y.card(1, 6), 0);
    }

    private static void cardIsSomebodys() {
        due.says("Promise 3", "-1 if the card is somebody's (its own, too)");
        Rows x = Rows.of(0, 0);
        x.card(1, 0);
        due.is("its own", x.card(1, 0), -1);
        due.is("another's", x.card(2, 0), -1);
        due.is("it is its reader's still", x.whose(0), 1);
        due.is("no card more", x.about(1, 2), 1);
        due.is("no card more", x.about(2, 2), 0);
        x.lost(0, 1);
        due.is("its own, LOST", x.card(1, 0), -1);
        due.is("another's, LOST", x.card(2, 0), -1);
        due.is("nobody's", x.card(2, 2), 1);
        for (int c = 3; c <= 5; c++) {
            x.card(2, c);
        }
        due.is("with 4, another's", x.card(2, 1), -1);
        due.is("with 4, nobody's", x.card(2, 6), 5);
    }

    private static void whose() {
        due.says("Promise 4", "Whose card it is, if it is good");
        Rows x = Rows.of(0, 0, 0);
        x.card(3, 7);
        x.card(2, 8);
        due.is("the third's", x.whose(7), 3);
        due.is("the second's", x.whose(8), 2);
        due.says("Promise 4", "0 if it is LOST");
        x.lost(7, 9);
        due.is("LOST", x.whose(7), 0);
        due.is("in place of it", x.whose(9), 3);
        due.is("another's is good", x.whose(8), 2);
        due.says("Promise 4", "or nobody's");
        due.is("nobody's", x.whose(6), 0);
        due.is("nobody's", x.whose(10), 0);
        due.is("nobody's", x.whose(0), 0);
        due.is("0, that was given", x.card(2, 0), 2);
        due.is("0 is a card", x.whose(0), 2);
    }

    private static void lost() {
        due.says("Promise 5", "A card is LOST, and a new one is its reader's in place of it: whose");
        Rows x = Rows.of(0, 0);
        x.card(2, 20);
        x.card(2, 21);
        due.is("whose", x.lost(20, 22), 2);
        due.is("LOST", x.whose(20), 0);
        due.is("the new one", x.whose(22), 2);
        due.is("the other one stays", x.whose(21), 2);
        due.is("the new one is lost in turn", x.lost(22, 23), 2);
        due.is("LOST", x.whose(22), 0);
        due.is("the newest", x.whose(23), 2);
        due.says("Promise 5", "(the old one counts on among the 5)");
        due.is("two that were given, two in place", x.about(2, 2), 4);
        due.is("the fifth", x.card(2, 24), 5);
        due.is("the sixth", x.card(2, 25), 0);
    }

    private static void lostNotGood() {
        due.says("Promise 5", "0 if the old one is not good");
        Rows x = Rows.of(0);
        due.is("no cards at all", x.lost(1, 2), 0);
        x.card(1, 1);
        due.is("nobody's", x.lost(3, 2), 0);
        due.is("nobody's, the new one somebody's", x.lost(3, 1), 0);
        due.is("the new one is nobody's", x.whose(2), 0);
        due.is("good", x.lost(1, 2), 1);
        due.is("LOST", x.lost(1, 3), 0);
        due.is("LOST, the new one somebody's", x.lost(1, 2), 0);
        due.is("the new one is nobody's", x.whose(3), 0);
        due.is("no card more", x.about(1, 2), 2);
    }

    private static void lostIsSomebodys() {
        due.says("Promise 5", "-1 if the new one is somebody's");
        Rows x = Rows.of(0, 0);
        x.card(1, 1);
        x.card(1, 2);
        x.card(2, 3);
        x.lost(2, 4);
        due.is("itself", x.lost(1, 1), -1);
        due.is("its reader's other one", x.lost(1, 4), -1);
        due.is("its reader's LOST one", x.lost(1, 2), -1);
        due.is("another's", x.lost(1, 3), -1);
        due.is("it is good still", x.whose(1), 1);
        due.is("the other's is the other's", x.whose(3), 2);
        due.is("no card more", x.about(1, 2), 3);
        due.is("nobody's", x.lost(1, 5), 1);
        due.is("another's LOST one", x.lost(3, 1), -1);
    }

    private static void lostOfFive() {
        due.says("Promise 5", "-2 if the reader has 5");
        Rows x = Rows.of(0, 0);
        for (int c = 1; c <= 4; c++) {
            x.card(1, c);
        }
        x.card(2, 9);
        due.is("with 4", x.lost(1, 5), 1);
        due.is("with 5", x.lost(2, 6), -2);
        due.is("it is good still", x.whose(2), 1);
        due.is("the new one is nobody's", x.whose(6), 0);
        due.is("it has 5 still", x.about(1, 2), 5);
        due.is("with 5, the new one somebody's", x.lost(2, 9), -1);
        due.is("with 5, the old one LOST", x.lost(1, 6), 0);
        due.is("another reader has 1", x.lost(9, 6), 2);
        due.is("join", x.join(2, 1), 1);
        due.is("with 7", x.lost(6, 7), -2);
    }
}
