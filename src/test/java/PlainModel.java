import java.util.ArrayList;
import java.util.Comparator;
import java.util.HashMap;
import java.util.List;
import java.util.Map;
import java.util.regex.Matcher;
import java.util.regex.Pattern;

/** A second, slow writing of the document with the Java library, to compare long runs with. */
final class PlainModel {
    private static final Pattern ROW = Pattern.compile("([a-z]{1,12}) ([0-4]) ([0-9]{1,5})");

    private static final class Reader {
        int number;
        int kind;
        Reader guardian;
        Reader joinedInto;
        boolean consent;
        String name;
        int year;
        Map<Integer, Long> blocks = new HashMap<>();
    }

    private static final class Card {
        Reader holder;
        boolean good = true;
    }

    private static final class Loan {
        Reader holder;
        int kindThen;
        int item;
        long from;
        long to;
        boolean anonymous;
    }

    private final List<Reader> readers = new ArrayList<>();
    private final Map<Integer, Card> cards = new HashMap<>();
    private final List<Loan> loans = new ArrayList<>();
    private final int[] days = {30, 30, 30, 30, 30};
    private StringBuilder signs = new StringBuilder();

    private Reader at(int number) {
        return number < 1 || number > readers.size() ? null : last(readers.get(number - 1));
    }

    private static Reader last(Reader reader) {
        return reader.joinedInto == null ? reader : last(reader.joinedInto);
    }

    private static Reader guardian(Reader reader) {
        return reader.guardian == null ? null : last(reader.guardian);
    }

    private List<Reader> wards(Reader guardian) {
        List<Reader> wards = new ArrayList<>();
        for (Reader reader : readers) {
            if (reader.joinedInto == null && guardian(reader) == guardian) {
                wards.add(reader);
            }
        }
        return wards;
    }

    private static boolean isDay(long day) {
        return 0 <= day && day <= 1_000_000_000L;
    }

    private static boolean isKind(int kind) {
        return 0 <= kind && kind <= 4;
    }

    private Reader newReader(int kind, Reader guardian) {
        Reader reader = new Reader();
        reader.kind = kind;
        reader.guardian = guardian;
        readers.add(reader);
        reader.number = readers.size();
        return reader;
    }

    int reader(int kind, int guardian) {
        if (!isKind(kind) || readers.size() == 60) {
            return 0;
        }
        if (guardian != 0 && (at(guardian) == null || guardian(at(guardian)) != null)) {
            return 0;
        }
        return newReader(kind, guardian == 0 ? null : at(guardian)).number;
    }

    private int cardsOf(Reader reader) {
        return (int) cards.values().stream().filter(card -> last(card.holder) == reader).count();
    }

    private void give(Reader reader, int c) {
        Card card = new Card();
        card.holder = reader;
        cards.put(c, card);
    }

    int card(int reader, int c) {
        Reader found = at(reader);
        if (found == null || cardsOf(found) >= 5) {
            return 0;
        }
        if (cards.containsKey(c)) {
            return -1;
        }
        give(found, c);
        return cardsOf(found);
    }

    int whose(int c) {
        Card card = cards.get(c);
        return card == null || !card.good ? 0 : last(card.holder).number;
    }

    int lost(int c, int other) {
        int holder = whose(c);
        if (holder == 0) {
            return 0;
        }
        if (cards.containsKey(other)) {
            return -1;
        }
        if (cardsOf(at(holder)) >= 5) {
            return -2;
        }
        cards.get(c).good = false;
        give(at(holder), other);
        return holder;
    }

    int block(int reader, int sort, long until) {
        if (at(reader) == null || sort < 0 || sort > 5 || !isDay(until)) {
            return 0;
        }
        at(reader).blocks.put(sort, until);
        return 1;
    }

    int blocked(int reader, long day) {
        Reader found = at(reader);
        int least = 6;
        for (Reader one : found == null ? new Reader[0] : new Reader[] {found, guardian(found)}) {
            if (one != null) {
                for (Map.Entry<Integer, Long> block : one.blocks.entrySet()) {
                    least = block.getValue() >= day ? Math.min(least, block.getKey()) : least;
                }
            }
        }
        return least == 6 ? -1 : least;
    }

    private boolean isKept(Loan loan, long day) {
        Reader holder = last(loan.holder);
        return !loan.anonymous && (holder.consent || day <= loan.to + days[holder.kind]);
    }

    private int anonymise(long day, Reader only) {
        int made = 0;
        for (Loan loan : loans) {
            if ((only == null || last(loan.holder) == only) && !loan.anonymous && !isKept(loan, day)) {
                loan.anonymous = true;
                made++;
            }
        }
        return made;
    }

    int consent(int reader, boolean yes, long day) {
        Reader found = at(reader);
        if (found == null || !isDay(day)) {
            return -1;
        }
        boolean before = found.consent;
        found.consent = yes;
        return before && !yes ? anonymise(day, found) : 0;
    }

    int keeps(int kind, int most) {
        if (!isKind(kind) || most < 0 || most > 100_000) {
            return -1;
        }
        int before = days[kind];
        days[kind] = most;
        return before;
    }

    int loan(int reader, int item, long from, long to) {
        if (at(reader) == null || !isDay(from) || !isDay(to) || from > to || loans.size() == 200) {
            return 0;
        }
        Loan loan = new Loan();
        loan.holder = at(reader);
        loan.kindThen = loan.holder.kind;
        loan.item = item;
        loan.from = from;
        loan.to = to;
        loans.add(loan);
        return loans.size();
    }

    int kept(int reader, int i, long day) {
        List<Loan> found = new ArrayList<>();
        for (Loan loan : loans) {
            if (at(reader) != null && last(loan.holder) == at(reader) && isKept(loan, day)) {
                found.add(loan);
            }
        }
        found.sort(Comparator.comparingLong(loan -> loan.to));
        return i < 0 || i >= found.size() ? -1_000_000_007 : found.get(i).item;
    }

    int anonymise(long day) {
        return isDay(day) ? anonymise(day, null) : -1;
    }

    int join(int reader, int other) {
        Reader from = at(reader);
        Reader into = at(other);
        if (from == null || into == null || from == into || guardian(into) == from) {
            return 0;
        }
        if (!wards(from).isEmpty() && guardian(into) != null) {
            return 0;
        }
        from.blocks.forEach((sort, end) -> into.blocks.merge(sort, end, Math::max));
        from.joinedInto = into;
        return 1;
    }

    int family(int reader, int i) {
        Reader found = at(reader);
        if (found == null) {
            return 0;
        }
        List<Reader> family = new ArrayList<>();
        family.add(guardian(found) == null ? found : guardian(found));
        family.addAll(wards(family.get(0)));
        return i < 0 || i >= family.size() ? 0 : family.get(i).number;
    }

    void sign(int c) {
        if (signs.length() < 40) {
            signs.append((char) (c & 0xff));
        }
    }

    private String takeSigns() {
        String taken = signs.toString();
        signs = new StringBuilder();
        return taken;
    }

    // A beginning fits if the pattern matches it, or only missed more signs behind it.
    private static boolean mayBegin(String start) {
        Matcher matcher = ROW.matcher(start);
        return matcher.matches() || matcher.hitEnd();
    }

    int import0() {
        String taken = takeSigns();
        Matcher matcher = ROW.matcher(taken);
        if (!matcher.matches()) {
            int place = 0;
            while (place < taken.length() && mayBegin(taken.substring(0, place + 1))) {
                place++;
            }
            return -100 - place;
        }
        int year = Integer.parseInt(matcher.group(3));
        for (Reader reader : readers) {
            if (reader.joinedInto == null && matcher.group(1).equals(reader.name) && reader.year == year) {
                return -reader.number;
            }
        }
        if (readers.size() == 60) {
            return 0;
        }
        Reader reader = newReader(Integer.parseInt(matcher.group(2)), null);
        reader.name = matcher.group(1);
        reader.year = year;
        return reader.number;
    }

    private static int distance(String one, String other) {
        int[][] least = new int[one.length() + 1][other.length() + 1];
        for (int i = 0; i <= one.length(); i++) {
            for (int j = 0; j <= other.length(); j++) {
                if (i == 0 || j == 0) {
                    least[i][j] = i + j;
                } else {
                    int change = one.charAt(i - 1) == other.charAt(j - 1) ? 0 : 1;
                    least[i][j] = Math.min(least[i - 1][j - 1] + change, 1 + Math.min(least[i - 1][j], least[i][j - 1]));
                }
            }
        }
        return least[one.length()][other.length()];
    }

    int like() {
        String taken = takeSigns();
        if (!taken.matches("[a-z]{1,12}")) {
            return 0;
        }
        for (int wanted = 0; wanted <= 3; wanted++) {
            for (Reader reader : readers) {
                if (reader.joinedInto == null && reader.name != null && distance(reader.name, taken) == wanted) {
                    return reader.number;
                }
            }
        }
        return 0;
    }

    int about(int reader, int what) {
        Reader found = at(reader);
        if (found == null) {
            return -1;
        }
        return switch (what) {
            case 0 -> found.kind;
            case 1 -> guardian(found) == null ? 0 : guardian(found).number;
            case 2 -> cardsOf(found);
            case 3 -> found.consent ? 1 : 0;
            case 4 -> (int) loans.stream().filter(loan -> last(loan.holder) == found && !loan.anonymous).count();
            default -> -1;
        };
    }

    int statistics(int kind, long from, long to) {
        if (!isKind(kind)) {
            return -1;
        }
        return (int) loans.stream().filter(loan -> loan.kindThen == kind && from <= loan.from && loan.from <= to).count();
    }
}
