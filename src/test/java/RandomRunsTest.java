import java.util.ArrayList;
import java.util.List;
import java.util.Random;

/** Random runs of 512 calls, of several tempers, against the plain model; the seeds are fixed. */
public final class RandomRunsTest {
    private static final int RUNS = 4000;
    private static final int CALLS = 512;
    private static final int[] WILD = {Integer.MIN_VALUE, Integer.MAX_VALUE, -1, 61, 60, 1000, -61, 256};
    private static final long[] WILD_DAYS = {Long.MIN_VALUE, Long.MAX_VALUE, -1, 1000000000L, 1000000001L, 1000100000L, 0};
    private static final String[] NAMES = {"a", "b", "ab", "ann", "anna", "hanna", "smith", "smyth", "abcdefghijkl", "abcdefghijk"};

    private final Random random;
    private final ReaderRows rows = new ReaderRows();
    private final PlainModel model = new PlainModel();
    private final List<String> told = new ArrayList<>();
    private final int readersAsked;
    private final int[] weights = new int[18];
    private int readersMade = 0;

    private RandomRunsTest(long seed) {
        random = new Random(seed);
        readersAsked = seed % 3 == 0 ? 62 : seed % 3 == 1 ? 6 : 15;
        for (int i = 0; i < weights.length; i++) {
            weights[i] = 1 + random.nextInt(8);
        }
        // Joins and anonymising end a run's variety soon, so they stay rare in most runs.
        weights[11] = random.nextInt(3);
        weights[12] = 1 + random.nextInt(2);
    }

    public static void main(String[] args) {
        Due due = new Due();
        for (long seed = 0; seed < RUNS; seed++) {
            RandomRunsTest run = new RandomRunsTest(seed);
            String fault = run.run();
            due.holds("run " + seed + ": " + fault, fault == null);
            if (fault != null) {
                break;
            }
        }
        due.end("RandomRunsTest");
    }

    private String run() {
        for (int made = 0; made < CALLS;) {
            int before = told.size();
            String fault = step();
            if (fault != null) {
                return fault + " after " + told;
            }
            made += Math.max(1, told.size() - before);
        }
        return null;
    }

    private String step() {
        int which = pick();
        int r = someReader();
        int q = someReader();
        int c = random.nextInt(30) == 0 ? wild() : random.nextInt(90);
        int d = random.nextInt(30) == 0 ? wild() : random.nextInt(90);
        int kind = random.nextInt(20) == 0 ? wild() : random.nextInt(6) == 0 ? 5 : random.nextInt(5);
        int small = random.nextInt(20) == 0 ? wild() : random.nextInt(7);
        long day = someDay();
        long other = someDay();
        switch (which) {
            case 0: return same("reader(" + kind + "," + g(r) + ")", rows.reader(kind, g(r)), model.reader(kind, g(r)));
            case 1: return same("card(" + r + "," + c + ")", rows.card(r, c), model.card(r, c));
            case 2: return same("whose(" + c + ")", rows.whose(c), model.whose(c));
            case 3: return same("lost(" + c + "," + d + ")", rows.lost(c, d), model.lost(c, d));
            case 4: return same("block(" + r + "," + small + "," + day + ")", rows.block(r, small, day), model.block(r, small, day));
            case 5: return same("blocked(" + r + "," + day + ")", rows.blocked(r, day), model.blocked(r, day));
            case 6: return same("consent(" + r + "," + (c % 2 == 0) + "," + day + ")", rows.consent(r, c % 2 == 0, day), model.consent(r, c % 2 == 0, day));
            case 7: return same("keeps(" + kind + "," + c + ")", rows.keeps(kind, c), model.keeps(kind, c));
            case 8:
            case 9: return same("loan(" + r + "," + d + "," + day + "," + other + ")", rows.loan(r, d, day, other), model.loan(r, d, day, other));
            case 10: return same("kept(" + r + "," + small + "," + day + ")", rows.kept(r, small, day), model.kept(r, small, day));
            case 11: return same("anonymise(" + day + ")", rows.anonymise(day), model.anonymise(day));
            case 12: return same("join(" + r + "," + q + ")", rows.join(r, q), model.join(r, q));
            case 13: return same("family(" + r + "," + small + ")", rows.family(r, small), model.family(r, small));
            case 14: return collected(someRow(), random.nextInt(10) == 0);
            case 15: return collected(someName(), random.nextInt(10) != 0);
            case 16: return same("about(" + r + "," + small + ")", rows.about(r, small), model.about(r, small));
            default: return same("statistics(" + kind + "," + day + "," + other + ")", rows.statistics(kind, day, other), model.statistics(kind, day, other));
        }
    }

    private String collected(String signs, boolean asName) {
        collect(signs);
        return asName ? same("like()", rows.like(), model.like()) : same("import0()", rows.import0(), model.import0());
    }

    private String same(String call, int got, int want) {
        told.add(call + "=" + got);
        if ((call.startsWith("reader") || call.startsWith("import0")) && got > 0) {
            readersMade = got;
        }
        return got == want ? null : call + " answered " + got + ", due is " + want;
    }

    private void collect(String signs) {
        int high = random.nextInt(4) == 0 ? random.nextInt() << 8 : 0;
        for (int i = 0; i < signs.length(); i++) {
            told.add("sign(" + signs.charAt(i) + ")");
            rows.sign(signs.charAt(i) | high);
            model.sign(signs.charAt(i) | high);
        }
    }

    private String someName() {
        StringBuilder name = new StringBuilder(NAMES[random.nextInt(NAMES.length)]);
        for (int changes = random.nextInt(4); changes > 0; changes--) {
            int place = random.nextInt(name.length() + 1);
            char letter = (char) (random.nextInt(40) == 0 ? random.nextInt(256) : 'a' + random.nextInt(26));
            int how = random.nextInt(3);
            if (how == 0 || place == name.length()) {
                name.insert(place, letter);
            } else if (how == 1) {
                name.setCharAt(place, letter);
            } else {
                name.deleteCharAt(place);
            }
        }
        return name.toString();
    }

    private String someRow() {
        String name = random.nextInt(3) == 0 ? someName() : NAMES[random.nextInt(NAMES.length)];
        StringBuilder row = new StringBuilder(name + " " + random.nextInt(5) + " " + (random.nextInt(5) == 0 ? "0" : "") + random.nextInt(3));
        while (random.nextInt(6) == 0) {
            row.append((char) ('0' + random.nextInt(12)));
        }
        if (random.nextInt(6) == 0) {
            row.setCharAt(random.nextInt(row.length()), (char) random.nextInt(256));
        }
        if (random.nextInt(6) == 0) {
            row.setLength(random.nextInt(row.length() + 1));
        }
        return row.toString();
    }

    private int pick() {
        int all = 0;
        for (int weight : weights) {
            all += weight;
        }
        int at = random.nextInt(all);
        for (int i = 0; i < weights.length; i++) {
            at -= weights[i];
            if (at < 0) {
                return readersMade < 2 ? (random.nextBoolean() ? 0 : i) : i;
            }
        }
        return 0;
    }

    // Guardian 0 must come often: a guardian drawn like a reader would seldom be one without.
    private int g(int drawn) {
        return drawn % 2 == 0 ? 0 : drawn;
    }

    private int wild() {
        return WILD[random.nextInt(WILD.length)];
    }

    private int someReader() {
        return random.nextInt(40) == 0 ? wild() : random.nextInt(Math.min(readersAsked, readersMade + 2));
    }

    private long someDay() {
        return random.nextInt(20) == 0 ? WILD_DAYS[random.nextInt(WILD_DAYS.length)] : random.nextInt(120);
    }
}
