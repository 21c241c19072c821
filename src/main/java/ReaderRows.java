/** Readers of a library, with their cards, blocks, loans of the past, families and imported names. */
public final class ReaderRows {
    public static final int NONE = -1;

    private static final int NO_ITEM = -1000000007;
    private static final int NO_ROW = -100;
    private static final int CARD_IS_TAKEN = -1;
    private static final int CARDS_ARE_FULL = -2;
    private static final int MOST_CARDS = 5;
    private static final int KINDS = 5;
    private static final int SORTS = 6;
    private static final int DAYS_KEPT_AT_FIRST = 30;
    private static final int MOST_DAYS_KEPT = 100000;
    private static final int FARTHEST_NAME = 3;
    private static final long LAST_DAY = 1000000000L;

    private final Readers readers;
    private final Names names;
    private final Cards cards;
    private final Loans loans;
    private final Row row;
    private final int[] daysKept;

    public ReaderRows() {
        readers = new Readers();
        names = new Names();
        cards = new Cards();
        loans = new Loans();
        row = new Row();
        daysKept = new int[KINDS];
        for (int kind = 0; kind < KINDS; kind++) {
            daysKept[kind] = DAYS_KEPT_AT_FIRST;
        }
    }

    public int reader(int kind, int guardian) {
        if (!isKind(kind)) {
            return 0;
        }
        if (guardian == 0) {
            return readers.add(kind, 0);
        }
        int found = readers.find(guardian);
        if (found == 0 || readers.guardianOf(found) != 0) {
            return 0;
        }
        return readers.add(kind, found);
    }

    public int card(int reader, int c) {
        int found = readers.find(reader);
        if (found == 0 || cards.countOf(found) >= MOST_CARDS) {
            return 0;
        }
        if (cards.isTaken(c)) {
            return CARD_IS_TAKEN;
        }
        cards.add(found, c);
        return cards.countOf(found);
    }

    public int whose(int c) {
        return cards.holderOfGood(c);
    }

    public int lost(int c, int other) {
        int holder = cards.holderOfGood(c);
        if (holder == 0) {
            return 0;
        }
        if (cards.isTaken(other)) {
            return CARD_IS_TAKEN;
        }
        if (cards.countOf(holder) >= MOST_CARDS) {
            return CARDS_ARE_FULL;
        }
        cards.lose(c);
        cards.add(holder, other);
        return holder;
    }

    public int block(int reader, int sort, long until) {
        int found = readers.find(reader);
        if (found == 0 || sort < 0 || sort >= SORTS || !isDay(until)) {
            return 0;
        }
        readers.setBlock(found, sort, until);
        return 1;
    }

    public int blocked(int reader, long day) {
        int found = readers.find(reader);
        if (found == 0) {
            return NONE;
        }
        int guardian = readers.guardianOf(found);
        for (int sort = 0; sort < SORTS; sort++) {
            if (readers.hasBlock(found, sort, day)) {
                return sort;
            }
            if (guardian != 0 && readers.hasBlock(guardian, sort, day)) {
                return sort;
            }
        }
        return NONE;
    }

    public int consent(int reader, boolean yes, long day) {
        int found = readers.find(reader);
        if (found == 0 || !isDay(day)) {
            return NONE;
        }
        boolean takenBack = readers.hasConsent(found) && !yes;
        readers.setConsent(found, yes);
        return takenBack ? anonymiseLoansOf(found, day) : 0;
    }

    public int keeps(int kind, int days) {
        if (!isKind(kind) || days < 0 || days > MOST_DAYS_KEPT) {
            return NONE;
        }
        int before = daysKept[kind];
        daysKept[kind] = days;
        return before;
    }

    public int loan(int reader, int item, long from, long to) {
        int found = readers.find(reader);
        if (found == 0 || !isDay(from) || !isDay(to) || from > to) {
            return 0;
        }
        return loans.add(found, readers.kindOf(found), item, from, to);
    }

    public int kept(int reader, int i, long day) {
        int found = readers.find(reader);
        if (found == 0) {
            return NO_ITEM;
        }
        int seen = 0;
        for (int place = 0; place < loans.count(); place++) {
            int loan = loans.atPlace(place);
            if (loans.holderOf(loan) == found && isKept(loan, day)) {
                if (seen == i) {
                    return loans.itemOf(loan);
                }
                seen++;
            }
        }
        return NO_ITEM;
    }

    public int anonymise(long day) {
        if (!isDay(day)) {
            return NONE;
        }
        int made = 0;
        for (int loan = 0; loan < loans.count(); loan++) {
            if (anonymiseUnlessKept(loan, day)) {
                made++;
            }
        }
        return made;
    }

    public int join(int reader, int other) {
        int from = readers.find(reader);
        int into = readers.find(other);
        if (from == 0 || into == 0 || from == into || !mayJoin(from, into)) {
            return 0;
        }
        readers.merge(from, into);
        cards.moveAll(from, into);
        loans.moveAll(from, into);
        return 1;
    }

    public int family(int reader, int i) {
        int found = readers.find(reader);
        if (found == 0) {
            return 0;
        }
        int guardian = readers.guardianOf(found);
        int head = guardian == 0 ? found : guardian;
        return i == 0 ? head : readers.wardOf(head, i);
    }

    public void sign(int c) {
        row.collect(c & 255);
    }

    public int import0() {
        int misfit = row.readAll();
        int answer = misfit == NONE ? importFittingRow() : NO_ROW - misfit;
        row.clear();
        return answer;
    }

    public int like() {
        int answer = row.readNameAlone() ? nearestNamed() : 0;
        row.clear();
        return answer;
    }

    public int about(int reader, int what) {
        int found = readers.find(reader);
        if (found == 0) {
            return NONE;
        }
        switch (what) {
            case 0:
                return readers.kindOf(found);
            case 1:
                return readers.guardianOf(found);
            case 2:
                return cards.countOf(found);
            case 3:
                return readers.hasConsent(found) ? 1 : 0;
            case 4:
                return loans.countNamed(found);
            default:
                return NONE;
        }
    }

    public int statistics(int kind, long from, long to) {
        return isKind(kind) ? loans.countBegun(kind, from, to) : NONE;
    }

    private static boolean isKind(int kind) {
        return kind >= 0 && kind < KINDS;
    }

    private static boolean isDay(long day) {
        return day >= 0 && day <= LAST_DAY;
    }

    private boolean isKept(int loan, long day) {
        if (loans.isAnonymous(loan)) {
            return false;
        }
        int holder = loans.holderOf(loan);
        return readers.hasConsent(holder)
            || day <= loans.lastDayOf(loan) + daysKept[readers.kindOf(holder)];
    }

    private boolean anonymiseUnlessKept(int loan, long day) {
        if (loans.isAnonymous(loan) || isKept(loan, day)) {
            return false;
        }
        loans.makeAnonymous(loan);
        return true;
    }

    private int anonymiseLoansOf(int reader, long day) {
        int made = 0;
        for (int loan = 0; loan < loans.count(); loan++) {
            if (loans.holderOf(loan) == reader && anonymiseUnlessKept(loan, day)) {
                made++;
            }
        }
        return made;
    }

    // Guardians have none themselves, and a join must leave it so.
    private boolean mayJoin(int from, int into) {
        int guardian = readers.guardianOf(into);
        return guardian == 0 || (guardian != from && readers.wardOf(from, 1) == 0);
    }

    // A known name answers even when there are 60 readers: it needs no new one.
    private int importFittingRow() {
        int known = firstNamed();
        if (known != 0) {
            return -known;
        }
        int number = readers.add(row.kind(), 0);
        if (number != 0) {
            names.put(number, row);
        }
        return number;
    }

    private int firstNamed() {
        for (int number = 1; number <= readers.count(); number++) {
            if (!readers.isJoined(number) && names.isSame(number, row)) {
                return number;
            }
        }
        return 0;
    }

    private int nearestNamed() {
        int nearest = 0;
        int least = FARTHEST_NAME + 1;
        for (int number = 1; number <= readers.count(); number++) {
            if (!readers.isJoined(number) && names.has(number)) {
                int distance = names.distance(number, row);
                if (distance < least) {
                    least = distance;
                    nearest = number;
                }
            }
        }
        return nearest;
    }

    /** The readers by their numbers; what is asked of a number was found by find() before. */
    private static final class Readers {
        private static final int MOST = 60;
        // Days asked for may be below 0, so a missing block can't be told by its end alone.
        private static final long NO_BLOCK = -1L;

        private int count;
        private final int[] standsFor;
        private final int[] kinds;
        private final int[] guardians;
        private final boolean[] consents;
        private final long[] blockEnds;

        Readers() {
            count = 0;
            standsFor = new int[MOST + 1];
            kinds = new int[MOST + 1];
            guardians = new int[MOST + 1];
            consents = new boolean[MOST + 1];
            blockEnds = new long[(MOST + 1) * SORTS];
            for (int place = 0; place < blockEnds.length; place++) {
                blockEnds[place] = NO_BLOCK;
            }
        }

        int count() {
            return count;
        }

        int add(int kind, int guardian) {
            if (count >= MOST) {
                return 0;
            }
            count++;
            standsFor[count] = count;
            kinds[count] = kind;
            guardians[count] = guardian;
            return count;
        }

        int find(int number) {
            return number >= 1 && number <= count ? standsFor[number] : 0;
        }

        boolean isJoined(int number) {
            return standsFor[number] != number;
        }

        int kindOf(int reader) {
            return kinds[reader];
        }

        int guardianOf(int reader) {
            return guardians[reader];
        }

        boolean hasConsent(int reader) {
            return consents[reader];
        }

        void setConsent(int reader, boolean yes) {
            consents[reader] = yes;
        }

        void setBlock(int reader, int sort, long until) {
            blockEnds[reader * SORTS + sort] = until;
        }

        boolean hasBlock(int reader, int sort, long day) {
            long end = blockEnds[reader * SORTS + sort];
            return end != NO_BLOCK && day <= end;
        }

        /** The i-th reader, from 1 on, that has this one as its guardian; 0 if there is none. */
        int wardOf(int guardian, int i) {
            int seen = 0;
            for (int number = 1; number <= count; number++) {
                if (guardians[number] == guardian) {
                    seen++;
                    if (seen == i) {
                        return number;
                    }
                }
            }
            return 0;
        }

        // Every number points straight at its last reader, so no chain of joins is ever walked.
        void merge(int from, int into) {
            guardians[from] = 0;
            for (int number = 1; number <= count; number++) {
                if (standsFor[number] == from) {
                    standsFor[number] = into;
                }
                if (guardians[number] == from) {
                    guardians[number] = into;
                }
            }
            for (int sort = 0; sort < SORTS; sort++) {
                long end = blockEnds[from * SORTS + sort];
                int place = into * SORTS + sort;
                blockEnds[place] = Math.max(blockEnds[place], end);
            }
        }
    }

    /** Names and years of birth of the readers that were imported. */
    private static final class Names {
        private final char[] letters;
        private final int[] lengths;
        private final int[] years;
        private final int[] changes;

        Names() {
            letters = new char[(Readers.MOST + 1) * Row.LONGEST_NAME];
            lengths = new int[Readers.MOST + 1];
            years = new int[Readers.MOST + 1];
            changes = new int[Row.LONGEST_NAME + 1];
        }

        void put(int reader, Row row) {
            int length = row.nameLength();
            for (int place = 0; place < length; place++) {
                letters[reader * Row.LONGEST_NAME + place] = (char) row.signAt(place);
            }
            lengths[reader] = length;
            years[reader] = row.year();
        }

        boolean has(int reader) {
            return lengths[reader] > 0;
        }

        boolean isSame(int reader, Row row) {
            int length = row.nameLength();
            if (lengths[reader] != length || years[reader] != row.year()) {
                return false;
            }
            for (int place = 0; place < length; place++) {
                if (letterAt(reader, place) != row.signAt(place)) {
                    return false;
                }
            }
            return true;
        }

        /** How many letters to put in, take out or change between a reader's name and the row's. */
        int distance(int reader, Row row) {
            int width = row.nameLength();
            for (int column = 0; column <= width; column++) {
                changes[column] = column;
            }
            for (int line = 1; line <= lengths[reader]; line++) {
                int letter = letterAt(reader, line - 1);
                int aslant = changes[0];
                changes[0] = line;
                for (int column = 1; column <= width; column++) {
                    int changed = letter == row.signAt(column - 1) ? aslant : aslant + 1;
                    aslant = changes[column];
                    int moved = Math.min(changes[column], changes[column - 1]) + 1;
                    changes[column] = Math.min(changed, moved);
                }
            }
            return changes[width];
        }

        private int letterAt(int reader, int place) {
            return letters[reader * Row.LONGEST_NAME + place];
        }
    }

    /** All cards that are somebody's, good or lost. */
    private static final class Cards {
        // Joins only bring cards together, so there are never more than all readers could get.
        private static final int MOST = Readers.MOST * MOST_CARDS;

        private int count;
        private final int[] codes;
        private final int[] holders;
        private final boolean[] isLost;

        Cards() {
            count = 0;
            codes = new int[MOST];
            holders = new int[MOST];
            isLost = new boolean[MOST];
        }

        void add(int reader, int code) {
            if (count < MOST) {
                codes[count] = code;
                holders[count] = reader;
                count++;
            }
        }

        boolean isTaken(int code) {
            return placeOf(code) != NONE;
        }

        int holderOfGood(int code) {
            int place = placeOf(code);
            return place == NONE || isLost[place] ? 0 : holders[place];
        }

        void lose(int code) {
            int place = placeOf(code);
            if (place != NONE) {
                isLost[place] = true;
            }
        }

        int countOf(int reader) {
            int found = 0;
            for (int place = 0; place < count; place++) {
                if (holders[place] == reader) {
                    found++;
                }
            }
            return found;
        }

        void moveAll(int from, int into) {
            for (int place = 0; place < count; place++) {
                if (holders[place] == from) {
                    holders[place] = into;
                }
            }
        }

        private int placeOf(int code) {
            for (int place = 0; place < count; place++) {
                if (codes[place] == code) {
                    return place;
                }
            }
            return NONE;
        }
    }

    /** The loans of the past; a loan is held here by its number less one. */
    private static final class Loans {
        private static final int MOST = 200;

        private int count;
        private final int[] holders;
        private final int[] kindsThen;
        private final int[] items;
        private final long[] firstDays;
        private final long[] lastDays;
        private final boolean[] anonymous;
        private final int[] byLastDay;

        Loans() {
            count = 0;
            holders = new int[MOST];
            kindsThen = new int[MOST];
            items = new int[MOST];
            firstDays = new long[MOST];
            lastDays = new long[MOST];
            anonymous = new boolean[MOST];
            byLastDay = new int[MOST];
        }

        int count() {
            return count;
        }

        int add(int reader, int kind, int item, long from, long to) {
            if (count >= MOST) {
                return 0;
            }
            holders[count] = reader;
            kindsThen[count] = kind;
            items[count] = item;
            firstDays[count] = from;
            lastDays[count] = to;
            putInOrder(count);
            count++;
            return count;
        }

        // A loan's last day never changes, so the order is kept at the adding and no call sorts.
        private void putInOrder(int loan) {
            int place = loan;
            while (place > 0 && lastDays[byLastDay[place - 1]] > lastDays[loan]) {
                byLastDay[place] = byLastDay[place - 1];
                place--;
            }
            byLastDay[place] = loan;
        }

        int atPlace(int place) {
            return byLastDay[place];
        }

        int holderOf(int loan) {
            return holders[loan];
        }

        int itemOf(int loan) {
            return items[loan];
        }

        long lastDayOf(int loan) {
            return lastDays[loan];
        }

        boolean isAnonymous(int loan) {
            return anonymous[loan];
        }

        void makeAnonymous(int loan) {
            anonymous[loan] = true;
        }

        int countNamed(int reader) {
            int found = 0;
            for (int loan = 0; loan < count; loan++) {
                if (holders[loan] == reader && !anonymous[loan]) {
                    found++;
                }
            }
            return found;
        }

        int countBegun(int kind, long from, long to) {
            int found = 0;
            for (int loan = 0; loan < count; loan++) {
                if (kindsThen[loan] == kind && firstDays[loan] >= from && firstDays[loan] <= to) {
                    found++;
                }
            }
            return found;
        }

        void moveAll(int from, int into) {
            for (int loan = 0; loan < count; loan++) {
                if (holders[loan] == from) {
                    holders[loan] = into;
                }
            }
        }
    }

    /** The signs that are collected; NAME, KIND and year are there once they have been read. */
    private static final class Row {
        private static final int MOST_SIGNS = 40;
        private static final int LONGEST_NAME = 12;
        private static final int LONGEST_YEAR = 5;

        private int length;
        private int nameLength;
        private int kind;
        private int year;
        private final int[] signs;

        Row() {
            length = 0;
            signs = new int[MOST_SIGNS];
        }

        void collect(int sign) {
            if (length < MOST_SIGNS) {
                signs[length] = sign;
                length++;
            }
        }

        void clear() {
            length = 0;
        }

        int signAt(int place) {
            return place >= 0 && place < length ? signs[place] : NONE;
        }

        int nameLength() {
            return nameLength;
        }

        int kind() {
            return kind;
        }

        int year() {
            return year;
        }

        boolean readNameAlone() {
            readName();
            return nameLength > 0 && nameLength == length;
        }

        /** The place of the first sign that does not fit, or of the end; NONE if all is a row. */
        int readAll() {
            readName();
            int place = nameLength;
            if (place == 0 || signAt(place) != ' ') {
                return place;
            }
            place++;
            if (!isAmong(place, '0', '4')) {
                return place;
            }
            kind = signAt(place) - '0';
            place++;
            if (signAt(place) != ' ') {
                return place;
            }
            return readYear(place + 1);
        }

        private void readName() {
            int place = 0;
            while (place < LONGEST_NAME && isAmong(place, 'a', 'z')) {
                place++;
            }
            nameLength = place;
        }

        private int readYear(int start) {
            int place = start;
            year = 0;
            while (place < start + LONGEST_YEAR && isAmong(place, '0', '9')) {
                year = year * 10 + signAt(place) - '0';
                place++;
            }
            return place == start || place < length ? place : NONE;
        }

        private boolean isAmong(int place, int first, int last) {
            int sign = signAt(place);
            return sign >= first && sign <= last;
        }
    }
}
