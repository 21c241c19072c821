/** The sentences of promises 15 to 17: signs, rows to import, and NAMES that are like one. */
public final class RowSentencesTest {
    private static final Due due = new Due();

    public static void main(String[] args) {
        lowestEightBits();
        beyondForty();
        nameOfOneToTwelve();
        kindIsADigit();
        spaces();
        yearOfOneToFive();
        newReader();
        knownReader();
        knownNotJoined();
        thereAreSixty();
        firstThatDoesNotFit();
        orTheEnd();
        importCollectsNoMore();
        nameAlone();
        likeCollectsNoMore();
        likeNotJoined();
        nearest();
        threeAtMost();
        firstOfSeveral();
        likeNone();
        due.end("RowSentencesTest");
    }

    private static void lowestEightBits() {
        due.says("Promise 15", "A sign more (the lowest eight bits)");
        int[] above = {0, 256, 0x7fffff00, 0xffffff00, Integer.MIN_VALUE};
        Rows x = new Rows();
        for (int i = 0; i < above.length; i++) {
            String row = "ann 3 " + i;
            for (int place = 0; place < row.length(); place++) {
                x.sign(row.charAt(place) + above[i]);
            }
            due.is("with " + above[i] + " above", x.import0(), i + 1);
            due.is("its kind", x.about(i + 1, 0), 3);
        }
        x.sign('a' + 128);
        due.is("the eighth bit is one of them", x.import0(), -100);
        x.signs("an");
        x.sign('n' - 256);
        due.is("a sign below 0", x.like(), 1);
        x.sign(-1);
        due.is("sign 255", x.import0(), -100);
        x.sign('a');
        x.sign(0);
        due.is("sign 0", x.import0(), -101);
    }

    // No row that fits has more than 20 signs, so all that can be seen of the 41st is that it disturbs nothing.
    private static void beyondForty() {
        due.says("Promise 15", "beyond 40 it is lost");
        for (int signs : new int[] {39, 40, 41, 42, 52, 80, 81, 256, 300}) {
            Rows x = new Rows();
            x.signs("ann 1 7");
            x.signs(" ".repeat(signs - 7));
            due.is(signs + " signs, a row first", x.import0(), -107);
            due.is("nothing is left of them", x.importRow("bob 1 7"), 1);
            Rows y = new Rows();
            due.is(signs + " letters, a row", y.importRow("a".repeat(signs)), -112);
            due.is("nothing is left of them", y.importRow("aaa 1 7"), 1);
            Rows z = new Rows();
            z.importRow("aaaaaaaaaaaa 1 7");
            due.is(signs + " letters, no NAME", z.likeName("a".repeat(signs)), 0);
            due.is("nothing is left of them", z.likeName("aaaaaaaaa"), 1);
        }
        Rows x = new Rows();
        x.signs("#".repeat(40));
        x.signs("ann 1 7");
        due.is("a row behind 40 signs", x.import0(), -100);
        x.signs("#".repeat(40));
        x.signs("ann");
        due.is("a NAME behind 40 signs", x.like(), 0);
        x.signs("a".repeat(12) + " 1 12345" + " ".repeat(20));
        x.signs("b".repeat(40));
        due.is("the longest row, and more", x.import0(), -120);
        due.is("none came by that", x.reader(0, 0), 1);
    }

    private static void nameOfOneToTwelve() {
        due.says("Promise 16", "a NAME of 1 to 12 small letters");
        Rows x = new Rows();
        due.is("no letter", x.importRow(" 1 7"), -100);
        due.is("1 letter", x.importRow("a 1 7"), 1);
        due.is("1 letter, the last", x.importRow("z 1 7"), 2);
        due.is("11 letters", x.importRow("abcdefghijk 1 7"), 3);
        due.is("12 letters", x.importRow("abcdefghijkl 1 7"), 4);
        due.is("13 letters", x.importRow("abcdefghijklm 1 7"), -112);
        due.is("all letters", x.importRow("mnopqrstuvwx 1 7"), 5);
        due.is("all letters", x.importRow("yz 1 7"), 6);
        for (char sign : new char[] {'`', '{', 'A', 'Z', '-', '\'', '0', (char) 228, (char) 0, (char) 255}) {
            due.is("sign " + (int) sign, x.importRow(sign + " 1 7"), -100);
            due.is("sign " + (int) sign + " behind a letter", x.importRow("a" + sign + " 1 7"), -101);
        }
        due.is("none came by those", x.reader(0, 0), 7);
    }

    private static void kindIsADigit() {
        due.says("Promise 16", "a KIND (a digit 0 .. 4)");
        Rows x = new Rows();
        for (int kind = 0; kind <= 4; kind++) {
            due.is("kind " + kind, x.importRow("ann " + kind + " " + kind), kind + 1);
            due.is("is its kind", x.about(kind + 1, 0), kind);
        }
        for (char sign : new char[] {'/', '5', '9', ':', ' ', 'a', '-'}) {
            due.is("sign " + sign, x.importRow("bob " + sign + " 7"), -104);
        }
        due.is("two digits", x.importRow("bob 01 7"), -105);
        due.is("none came by those", x.reader(0, 0), 6);
    }

    private static void spaces() {
        due.says("Promise 16", "a space");
        Rows x = new Rows();
        due.is("no space behind the NAME", x.importRow("bob1 7"), -103);
        due.is("another sign", x.importRow("bob\t1 7"), -103);
        due.is("two spaces", x.importRow("bob  1 7"), -104);
        due.is("no space behind the KIND", x.importRow("bob 17"), -105);
        due.is("another sign", x.importRow("bob 1\t7"), -105);
        due.is("two spaces", x.importRow("bob 1  7"), -106);
        due.is("a space first", x.importRow(" bob 1 7"), -100);
        due.is("a space at last", x.importRow("bob 1 7 "), -107);
        due.is("as is due", x.importRow("bob 1 7"), 1);
    }

    private static void yearOfOneToFive() {
        due.says("Promise 16", "1 to 5 digits of a year of birth");
        Rows x = new Rows();
        due.is("no digit", x.importRow("ann 1 "), -106);
        due.is("1 digit", x.importRow("ann 1 0"), 1);
        due.is("1 digit, the last", x.importRow("ann 1 9"), 2);
        due.is("4 digits", x.importRow("ann 1 1970"), 3);
        due.is("5 digits", x.importRow("ann 1 99999"), 4);
        due.is("5 digits, the first below that", x.importRow("ann 1 99998"), 5);
        due.is("5 digits, the least that needs them", x.importRow("ann 1 10000"), 6);
        due.is("6 digits", x.importRow("ann 1 123456"), -111);
        due.is("6 digits with a 0 first", x.importRow("ann 1 012345"), -111);
        due.is("no digit", x.importRow("ann 1 /"), -106);
        due.is("no digit", x.importRow("ann 1 :"), -106);
        due.is("below 0", x.importRow("ann 1 -5"), -106);
        due.is("a letter behind", x.importRow("ann 1 5b"), -107);
        due.is("none came by those", x.reader(0, 0), 7);
    }

    private static void newReader() {
        due.says("Promise 16", "a new reader of that kind with that NAME and year: its number");
        Rows x = Rows.of(0);
        due.is("its number", x.importRow("ann 4 1970"), 2);
        int[] about = {4, 0, 0, 0, 0};
        for (int what = 0; what <= 4; what++) {
            due.is("about " + what, x.about(2, what), about[what]);
        }
        due.is("with that NAME", x.likeName("ann"), 2);
        due.is("and year", x.importRow("ann 0 1970"), -2);
        due.is("another year", x.importRow("ann 4 1971"), 3);
        due.is("another NAME", x.importRow("anna 4 1970"), 4);
        due.is("another NAME", x.importRow("an 4 1970"), 5);
        due.is("another NAME of that length", x.importRow("anm 4 1970"), 6);
        due.is("another NAME of that length", x.importRow("bnn 4 1970"), 7);
    }

    private static void knownReader() {
        due.says("Promise 16", "or, negative, the first reader with that NAME and year");
        Rows x = Rows.of(0);
        x.importRow("ann 1 1970");
        x.importRow("bob 1 1970");
        x.importRow("ann 1 1971");
        due.is("the first NAME and year", x.importRow("ann 1 1970"), -2);
        due.is("of another kind", x.importRow("ann 4 1970"), -2);
        due.is("its kind stays", x.about(2, 0), 1);
        due.is("another NAME", x.importRow("bob 1 1970"), -3);
        due.is("another year", x.importRow("ann 1 1971"), -4);
        due.is("no reader more by those", x.reader(0, 0), 5);
        due.is("year 1969", x.importRow("ann 1 1969"), 6);
        due.is("year 9", x.importRow("ann 1 9"), 7);
        due.is("year 10", x.importRow("ann 1 10"), 8);
        due.is("a year is a number", x.importRow("bob 1 01970"), -3);
        due.is("a year is a number", x.importRow("eve 1 007"), 9);
        due.is("a year is a number", x.importRow("eve 1 7"), -9);
        Rows y = new Rows();
        String[] longest = {"abcdefghijkl", "mnopqrstuvwx", "yzabcdefghij"};
        for (int i = 0; i < longest.length; i++) {
            due.is("the longest NAMES side by side", y.importRow(longest[i] + " 1 7"), i + 1);
        }
        for (int i = 0; i < longest.length; i++) {
            due.is("each is known", y.importRow(longest[i] + " 1 7"), -i - 1);
        }
    }

    private static void knownNotJoined() {
        due.says("Promise 16", "(not JOINED into another one)");
        Rows x = Rows.of(0);
        x.importRow("ann 1 1970");
        due.is("not joined", x.importRow("ann 1 1970"), -2);
        due.is("another one joined into it", x.join(1, 2), 1);
        due.is("it is not joined", x.importRow("ann 1 1970"), -2);
        x.reader(0, 0);
        due.is("it is joined", x.join(2, 3), 1);
        due.is("not found", x.importRow("ann 1 1970"), 4);
        due.is("the new one is", x.importRow("ann 1 1970"), -4);
        due.is("the new one is joined into the first", x.join(4, 2), 1);
        due.is("not found", x.importRow("ann 1 1970"), 5);
    }

    private static void thereAreSixty() {
        due.says("Promise 16", "0 if there are 60");
        Rows x = new Rows();
        for (int number = 1; number <= 58; number++) {
            x.reader(0, 0);
        }
        due.is("the 59th", x.importRow("ann 1 1970"), 59);
        due.is("the 60th, with the longest NAME", x.importRow("bobbobbobbob 2 1970"), 60);
        due.is("the 61st", x.importRow("eve 3 1970"), 0);
        due.is("none came", x.about(61, 0), -1);
        due.is("the 60th is as it was", x.about(60, 0), 2);
        due.is("its NAME, too", x.likeName("bobbobbobbob"), 60);
        due.is("the refused NAME is nobody's, so a near one", x.likeName("eve"), 59);
        due.is("a known one", x.importRow("bobbobbobbob 3 1970"), -60);
        due.is("a row that does not fit", x.importRow("eve 5 1970"), -104);
        due.is("nothing is collected any more", x.import0(), -100);
        due.is("a join", x.join(60, 1), 1);
        due.is("makes no number free", x.importRow("bobbobbobbob 2 1970"), 0);
    }

    private static void firstThatDoesNotFit() {
        due.says("Promise 16", "-100 less the place of the first sign that does not fit");
        String row = "abcdefghijkl 4 12345";
        Rows x = new Rows();
        for (int place = 0; place < row.length(); place++) {
            String start = row.substring(0, place);
            due.is("# at " + place, x.importRow(start + "#"), -100 - place);
        }
        x = new Rows();
        due.is("# behind a whole row", x.importRow(row + "#"), -120);
        due.is("the first of two", x.importRow("a#1#7"), -101);
        due.is("the first of two", x.importRow("a #7#"), -102);
        due.is("none came by those", x.importRow(row), 1);
    }

    private static void orTheEnd() {
        due.says("Promise 16", "(or the end)");
        String row = "ann 4 1";
        Rows x = new Rows();
        for (int place = 0; place < row.length(); place++) {
            due.is("the end at " + place, x.importRow(row.substring(0, place)), -100 - place);
        }
        due.is("the end of 12 letters", x.importRow("abcdefghijkl"), -112);
        due.is("the whole row", x.importRow(row), 1);
    }

    private static void importCollectsNoMore() {
        due.says("Promise 16", "Nothing is collected any more");
        Rows x = new Rows();
        due.is("a new reader", x.importRow("ann 4 1"), 1);
        due.is("after it", x.import0(), -100);
        due.is("a known one", x.importRow("ann 4 1"), -1);
        due.is("after it", x.like(), 0);
        due.is("a misfit", x.importRow("ann 4"), -105);
        due.is("after it, what would have been its rest", x.importRow(" 2"), -100);
        due.is("after it, a row", x.importRow("ann 4 2"), 2);
        due.is("a shorter row after a longer one", x.importRow("bo 1 3"), 3);
        due.is("only the shorter NAME", x.likeName("bo"), 3);
    }

    private static void nameAlone() {
        due.says("Promise 17", "What is collected is a NAME alone");
        Rows x = new Rows();
        x.importRow("a 0 1");
        x.importRow("abcdefghijkl 0 1");
        due.is("1 letter", x.likeName("a"), 1);
        due.is("12 letters", x.likeName("abcdefghijkl"), 2);
        due.is("13 letters", x.likeName("abcdefghijklm"), 0);
        due.is("no letter", x.likeName(""), 0);
        due.is("a space behind", x.likeName("a "), 0);
        due.is("a space before", x.likeName(" a"), 0);
        due.is("a row", x.likeName("a 0 1"), 0);
        for (char sign : new char[] {'`', '{', 'A', '0', (char) 0, (char) 225}) {
            due.is("sign " + (int) sign, x.likeName("" + sign), 0);
            due.is("sign " + (int) sign + " behind a letter", x.likeName("a" + sign), 0);
        }
    }

    private static void likeCollectsNoMore() {
        due.says("Promise 17", "(nothing is collected any more)");
        Rows x = new Rows();
        x.importRow("ann 0 1");
        due.is("a NAME", x.likeName("ann"), 1);
        due.is("after it", x.like(), 0);
        due.is("after it", x.import0(), -100);
        due.is("no NAME", x.likeName("ann 1"), 0);
        due.is("after it, what would have been its rest", x.importRow(" 7"), -100);
        due.is("nobody's NAME", x.likeName("bobby"), 0);
        due.is("after it, a row", x.importRow("bob 1 7"), 2);
    }

    private static void likeNotJoined() {
        due.says("Promise 17", "the reader (not JOINED into another one)");
        Rows x = Rows.of(0);
        x.importRow("ann 0 1");
        x.importRow("anna 0 1");
        due.is("not joined", x.likeName("ann"), 2);
        due.is("another one joined into it", x.join(1, 2), 1);
        due.is("it is not joined", x.likeName("ann"), 2);
        due.is("it is joined", x.join(2, 3), 1);
        due.is("the next one", x.likeName("ann"), 3);
        x.reader(0, 0);
        due.is("that is joined, too", x.join(3, 4), 1);
        due.is("none is left", x.likeName("ann"), 0);
    }

    private static void nearest() {
        due.says("Promise 17", "that has the nearest NAME: the fewest letters to put in, take out or change");
        Rows x = new Rows();
        x.importRow("martens 0 1");
        x.importRow("martin 0 1");
        x.importRow("marti 0 1");
        x.importRow("martin 0 2");
        due.is("none to change, behind nearer ones", x.likeName("marti"), 3);
        due.is("none to change", x.likeName("martin"), 2);
        due.is("one to change", x.likeName("mertin"), 2);
        due.is("one to put in", x.likeName("martns"), 1);
        due.is("one to take out", x.likeName("martiin"), 2);
        due.is("two to change", x.likeName("mertyn"), 2);
        due.is("one to change and one to put in", x.likeName("mrtans"), 1);
        due.is("one before all", x.likeName("xmarti"), 3);
        due.is("two letters in each other's places are two", x.likeName("amrti"), 3);
        due.is("the first letter to put in", x.likeName("artens"), 1);
        Rows y = new Rows();
        y.importRow("abcdefghijkx 0 1");
        y.importRow("bobb 0 1");
        y.importRow("xbcdefghijkl 0 1");
        due.is("another reader's letters do not count, before", y.likeName("xxxxbobb"), 0);
        due.is("another reader's letters do not count, behind", y.likeName("bobbxxxx"), 0);
    }

    private static void threeAtMost() {
        due.says("Promise 17", "three at most");
        Rows x = new Rows();
        x.importRow("abcdef 0 1");
        due.is("three to change", x.likeName("xyzdef"), 1);
        due.is("four to change", x.likeName("wxyzef"), 0);
        due.is("three to put in", x.likeName("def"), 1);
        due.is("four to put in", x.likeName("ef"), 0);
        due.is("three to take out", x.likeName("xyzabcdef"), 1);
        due.is("four to take out", x.likeName("wxyzabcdef"), 0);
        due.is("one of each", x.likeName("bcxefz"), 1);
        due.is("one of each and one more", x.likeName("bcxxfz"), 0);
        Rows y = new Rows();
        y.importRow("abc 0 1");
        due.is("three letters, none of them", y.likeName("xyz"), 1);
        due.is("one letter, none of them", y.likeName("x"), 1);
        due.is("four letters, none of them", y.likeName("wxyz"), 0);
        due.is("six letters", y.likeName("abcxyz"), 1);
        due.is("seven letters", y.likeName("abcwxyz"), 0);
    }

    private static void firstOfSeveral() {
        due.says("Promise 17", "of several the first");
        Rows x = new Rows();
        x.importRow("bob 0 1");
        x.importRow("rob 0 1");
        x.importRow("bob 0 2");
        due.is("the same NAME twice", x.likeName("bob"), 1);
        due.is("two that are as near", x.likeName("hob"), 1);
        due.is("a nearer one behind", x.likeName("ro"), 2);
        x.join(1, 2);
        due.is("the first is joined", x.likeName("bob"), 3);
        due.is("the first is joined", x.likeName("hob"), 2);
    }

    private static void likeNone() {
        due.says("Promise 17", "0 if there is none");
        Rows x = new Rows();
        due.is("no readers", x.likeName("a"), 0);
        x.reader(0, 0);
        due.is("a reader without a NAME", x.likeName("a"), 0);
        due.is("a reader without a NAME", x.likeName("abc"), 0);
        x.importRow("bobby 0 1");
        due.is("none that is near", x.likeName("a"), 0);
        due.is("one that is near", x.likeName("bo"), 2);
        due.says("Promise 17", "or it is no NAME");
        due.is("nothing", x.likeName(""), 0);
        due.is("a great letter", x.likeName("Bobby"), 0);
        due.is("a space", x.likeName("bobby "), 0);
        due.is("a NAME", x.likeName("bobby"), 2);
    }
}
