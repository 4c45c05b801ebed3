import java.math.BigInteger;
import java.util.ArrayList;
import java.util.List;

/**
 * The whole object told a second time, call by call: Model's booth, and around it SPOTS, SHEETS, THE TAPE,
 * what is kept and status. A finding is thrown here, so that its order is that of the lines.
 */
final class Whole {
    /** The calls by their numbers, in the document's order, and how many arguments each has. */
    static final String[] NAMES = {
        "set", "booth", "queue", "place", "sitter", "of", "change", "faults", "best", "go", "now", "ahead",
        "later", "when", "broke", "all", "stoolFor", "lightFor", "turnFor", "kindFor", "merryFor", "priceFor",
        "away", "fits", "tall", "kinds", "lamps", "odds", "seed", "feed", "wipe", "text", "hold", "as", "sheet",
        "write", "copy", "load", "judge", "image", "undo", "tear", "count", "status"
    };

    private static final class Finding extends RuntimeException {
        final int which;

        Finding(int which) {
            super(null, null, false, false);
            this.which = which;
        }
    }

    private static final int BEYOND = 0;
    private static final int FULL = 1;
    private static final int KIND = 2;
    private static final int NONE = 3;
    private static final int STATE = 4;
    private static final int MISSING = 5;
    private static final int SIZE = 6;

    Model m = new Model();
    int[] spots = {-1, -1, -1, -1, -1, -1, -1, -1, -1, -1};
    final int[][] sheets = new int[4][];
    final int[] bits = new int[4];
    final StringBuilder tape = new StringBuilder();
    private Model keptModel;
    private int[] keptSpots;
    private final int[] found = new int[7];

    /** What a call answers; its arguments are the first of a. */
    long answer(String name, int[] a) {
        try {
            return told(name, a);
        } catch (Finding f) {
            found[f.which]++;
            return -1000001L - f.which;
        }
    }

    private static void need(boolean so, int otherwise) {
        if (!so) {
            throw new Finding(otherwise);
        }
    }

    private static void range(int v, int least, int most) {
        need(least <= v && v <= most, BEYOND);
    }

    private void isSitter(int s) {
        range(s, 0, m.many - 1);
    }

    private long told(String name, int[] a) {
        switch (name) {
            case "set": case "booth": case "queue": case "place": case "sitter": case "of": case "change":
            case "faults": case "best": return toldNow(name, a);
            case "go": case "now": case "ahead": case "later": case "when": case "broke": case "all":
                return toldOfMinutes(name, a);
            case "stoolFor": case "lightFor": case "turnFor": case "kindFor": case "merryFor": case "priceFor":
            case "away": return toldOfSitting(name, a);
            case "fits": case "tall": case "kinds": return toldOfRefusals(name, a);
            case "lamps": case "odds": case "seed": return toldOfLamps(name, a);
            case "feed": case "wipe": case "text": return toldOfTexts(name, a);
            case "image": case "undo": case "tear": case "count": case "status": return toldOfImages(name, a);
            default: return toldOfSheets(name, a);
        }
    }

    private int partOfBooth(int what) {
        return new int[] {m.stool, m.light, m.price, m.till}[what];
    }

    private void putPartOfBooth(int what, int v) {
        m.stool = what == 0 ? v : m.stool;
        m.light = what == 1 ? v : m.light;
        m.price = what == 2 ? v : m.price;
        m.till = what == 3 ? v : m.till;
    }

    private long toldNow(String name, int[] a) {
        int was;
        switch (name) {
            case "set":
                range(a[0], 0, 3);
                range(a[1], 0, new int[] {60, 9, 20, 99999}[a[0]]);
                was = partOfBooth(a[0]);
                putPartOfBooth(a[0], a[1]);
                return was;
            case "booth":
                range(a[0], 0, 3);
                return partOfBooth(a[0]);
            case "queue":
                range(a[0], 0, 5);
                range(a[1], -1, m.many - 1);
                was = m.places[a[0]];
                m.places[a[0]] = a[1];
                return was;
            case "place":
                range(a[0], 0, 5);
                return m.places[a[0]];
            case "sitter":
                range(a[0], 0, 6);
                range(a[1], 0, 90);
                need(m.many < 8, FULL);
                return m.add(a[0], a[1]);
            case "of":
                isSitter(a[0]);
                range(a[1], 0, 8);
                return a[1] == 7 ? m.off(a[0]) : a[1] == 8 ? m.may(a[0]) : m.who[a[0]][a[1]];
            case "change":
                isSitter(a[0]);
                range(a[1], 0, 6);
                range(a[2], 0, Model.MOST[a[1]]);
                was = m.who[a[0]][a[1]];
                m.who[a[0]][a[1]] = a[2];
                return was;
            case "faults":
                isSitter(a[0]);
                range(a[1], 0, 3);
                return m.faults(a[0], a[1]);
            default:
                isSitter(a[0]);
                return leastOf(4, f -> Integer.bitCount(m.faults(a[0], f)));
        }
    }

    private interface Measure {
        int of(int i);
    }

    /** The first i below a bound with the least measure. */
    private static int leastOf(int bound, Measure measure) {
        int best = 0;
        for (int i = bound - 1; i >= 0; i--) {
            best = measure.of(i) <= measure.of(best) ? i : best;
        }
        return best;
    }

    private long toldOfMinutes(String name, int[] a) {
        switch (name) {
            case "go":
                range(a[0], 1, 100);
                need(m.minute + a[0] <= 99999, STATE);
                return m.minutes(a[0]).sum(5);
            case "now":
                range(a[0], 0, 6);
                return new int[] {m.minute, m.sum(5), m.sum(6), m.sum(4), m.places[m.minute % 6], clear(),
                    common()}[a[0]];
            case "ahead":
                isSitter(a[0]);
                range(a[1], 2, 6);
                range(a[2], 0, 200);
                return m.twin().minutes(a[2]).who[a[0]][a[1]];
            case "later":
                need(a[0] == 0 || a[0] == 3, BEYOND);
                range(a[1], 0, 200);
                Model then = m.twin().minutes(a[1]);
                return a[0] == 0 ? then.stool : then.till;
            case "when":
                isSitter(a[0]);
                range(a[1], 0, 999);
                return firstMinute(t -> t.who[a[0]][5] >= a[1]);
            case "broke":
                isSitter(a[0]);
                return firstMinute(t -> t.who[a[0]][4] < t.price);
            default:
                need(m.many > 0, STATE);
                return firstMinute(Whole::isEachTaken);
        }
    }

    private interface Question {
        boolean isSo(Model then);
    }

    private int firstMinute(Question question) {
        Model then = m.twin();
        int n = 0;
        while (!question.isSo(then)) {
            need(n < 200, NONE);
            then.minutes(1);
            n++;
        }
        return n;
    }

    private static boolean isEachTaken(Model then) {
        int missing = 0;
        for (int s = 0; s < then.many; s++) {
            missing += then.who[s][5] == 0 ? 1 : 0;
        }
        return missing == 0;
    }

    private int clear() {
        int set = 0;
        for (int s = m.many - 1; s >= 0; s--) {
            set = 2 * set + (m.clear(s) ? 1 : 0);
        }
        return set;
    }

    private int common() {
        int set = 0;
        for (int bit = 1; bit <= 16 && m.many > 0; bit *= 2) {
            int have = 0;
            for (int i = 0; i < 4 * m.many; i++) {
                have += (m.faults(i / 4, i % 4) & bit) == 0 ? 0 : 1;
            }
            set += have == 4 * m.many ? bit : 0;
        }
        return set;
    }

    private long toldOfSitting(String name, int[] a) {
        if (name.equals("priceFor")) {
            range(a[0], 0, 60);
            return leastOf(21, price -> {
                Model then = m.twin();
                then.price = price;
                return -then.minutes(a[0]).till;
            });
        }
        int s = a[0];
        isSitter(s);
        if (name.equals("stoolFor")) {
            return leastOf(61, stool -> {
                Model then = m.twin();
                then.stool = stool;
                int faults = 0;
                for (int f = 0; f < 4; f++) {
                    faults += Integer.bitCount(then.faults(s, f));
                }
                return faults;
            });
        }
        if (name.equals("away")) {
            range(a[1], 0, 999);
            range(a[2], 0, 20);
            return away(s, a[1], a[2]);
        }
        range(a[1], 0, 60);
        switch (name) {
            case "lightFor": return bestLight(s, a[1]);
            case "merryFor": return bestMerry(s, a[1]);
            case "turnFor": return leastOf(6, place -> {
                Model then = m.twin();
                then.places[place] = s;
                return -then.minutes(a[1]).who[s][5];
            });
            default: return leastOf(7, kind -> {
                Model then = m.twin();
                then.who[s][0] = kind;
                return -then.minutes(a[1]).who[s][5];
            });
        }
    }

    private int bestLight(int s, int n) {
        for (int light = 0; light <= 9; light++) {
            Model then = m.twin();
            then.light = light;
            if (then.minutes(n).who[s][5] > m.who[s][5]) {
                return light;
            }
        }
        throw new Finding(NONE);
    }

    private int bestMerry(int s, int n) {
        for (int merry = 9; merry >= 0; merry--) {
            Model then = m.twin();
            then.who[s][3] = merry;
            if (then.minutes(n).who[s][5] > m.who[s][5]) {
                return merry;
            }
        }
        throw new Finding(NONE);
    }

    private int away(int s, int v, int n) {
        for (int many = 0; many < m.many; many++) {
            for (int set = 0; set < 1 << m.many; set++) {
                if (Integer.bitCount(set) == many && (set & 1 << s) == 0 && isEnoughWithout(set, s, v, n)) {
                    return set;
                }
            }
        }
        throw new Finding(NONE);
    }

    private boolean isEnoughWithout(int set, int s, int v, int n) {
        Model then = m.twin();
        for (int p = 0; p < 6; p++) {
            if (then.places[p] >= 0 && (set & 1 << then.places[p]) != 0) {
                then.places[p] = -1;
            }
        }
        return then.minutes(n).who[s][5] >= v;
    }

    private int[] sheet(int s) {
        range(s, 0, 3);
        need(sheets[s] != null, MISSING);
        return sheets[s];
    }

    private long toldOfRefusals(String name, int[] a) {
        int[] row = sheet(a[0]);
        isSitter(a[1]);
        if (name.equals("kinds")) {
            int set = 0;
            for (int kind = 0; kind <= 6; kind++) {
                Model then = m.twin();
                then.who[a[1]][0] = kind;
                int wrong = 0;
                for (int told : row) {
                    wrong += told == -1 || told == then.who[a[1]][5] ? 0 : 1;
                    then.minutes(1);
                }
                set |= wrong == 0 ? 1 << kind : 0;
            }
            return set;
        }
        List<Integer> could = new ArrayList<>();
        for (int tall = 0; tall <= 90; tall++) {
            Model then = m.twin();
            then.who[a[1]][1] = tall;
            int wrong = 0;
            for (int f = 0; f < Math.min(4, row.length); f++) {
                wrong += row[f] == -1 || row[f] == then.faults(a[1], f) ? 0 : 1;
            }
            if (wrong == 0) {
                could.add(tall);
            }
        }
        if (name.equals("fits")) {
            return could.size();
        }
        need(!could.isEmpty(), NONE);
        return could.get(0);
    }

    private long toldOfLamps(String name, int[] a) {
        if (name.equals("seed")) {
            int was = m.z;
            m.z = a[0];
            return was;
        }
        if (name.equals("lamps")) {
            range(a[0], 1, 20);
            need(m.minute + a[0] <= 99999, STATE);
            for (int i = 0; i < a[0]; i++) {
                m.light = m.draw() % 10;
                int s = m.draw() % 8;
                if (s < m.many) {
                    m.places[m.minute % 6] = s;
                }
                m.minutes(1);
            }
            return m.sum(5);
        }
        isSitter(a[0]);
        range(a[1], 0, 3);
        range(a[2], 0, 18);
        range(a[3], 0, 1);
        int good = 0;
        for (int light = 0; light <= 9; light++) {
            Model then = m.twin();
            then.light = light;
            good += then.faults(a[0], a[1]) == 0 ? 1 : 0;
        }
        BigInteger above = BigInteger.valueOf(good).pow(a[2]);
        BigInteger below = BigInteger.TEN.pow(a[2]);
        return (a[3] == 0 ? above : below).divide(above.gcd(below)).longValueExact();
    }

    private long toldOfTexts(String name, int[] a) {
        int had = tape.length();
        if (name.equals("feed")) {
            range(a[1], 1, 4);
            need(had + a[1] <= 120, FULL);
            for (int i = a[1]; i > 0; i--) {
                tape.append((char) (a[0] >> 8 * i - 8 & 255));
            }
            return tape.length();
        }
        String text = tape.toString();
        tape.setLength(0);
        if (name.equals("wipe")) {
            return had;
        }
        ToldText read = new ToldText(text, m.twin());
        if (read.fault < 0) {
            m = read.booth;
            return read.items;
        }
        return -1 - read.fault;
    }

    private long toldOfSheets(String name, int[] a) {
        switch (name) {
            case "hold":
                range(a[0], 0, 9);
                range(a[1], -1, m.many - 1);
                spots[a[0]] = a[1];
                return 1;
            case "as":
                range(a[0], 0, 9);
                range(a[1], 0, 6);
                need(spots[a[0]] >= 0, MISSING);
                need(isUnder(m.who[spots[a[0]]][0], a[1]), KIND);
                return spots[a[0]];
            case "sheet":
                range(a[0], 0, 3);
                need(a[1] == 0 || a[1] == 8 || a[1] == 16 || a[1] == 32, BEYOND);
                need(a[2] >= 0, SIZE);
                need(a[2] <= 40, BEYOND);
                bits[a[0]] = a[1];
                sheets[a[0]] = a[1] == 0 ? null : new int[a[2]];
                return a[1] == 0 ? 0 : a[2];
            case "write":
                range(a[1], 0, sheet(a[0]).length - 1);
                sheets[a[0]][a[1]] = a[2] << 32 - bits[a[0]] >> 32 - bits[a[0]];
                return 1;
            case "copy":
                return copy(a);
            case "load":
                int came = 0;
                for (int who : sheet(a[0])) {
                    if (came > 5 || who < -1 || who >= m.many) {
                        break;
                    }
                    m.places[came++] = who;
                }
                return came;
            default:
                int[] row = sheet(a[0]);
                for (int i = 0; i < row.length; i++) {
                    if (i >= m.many || m.who[i][5] != row[i]) {
                        return 1 + i;
                    }
                }
                return 0;
        }
    }

    private long copy(int[] a) {
        range(a[0], 0, 3);
        range(a[2], 0, 3);
        int[] from = sheet(a[0]);
        int[] to = sheet(a[2]);
        need(bits[a[0]] == bits[a[2]], KIND);
        need(a[1] >= 0 && a[3] >= 0 && a[4] >= 0, BEYOND);
        need((long) a[1] + a[4] <= from.length && (long) a[3] + a[4] <= to.length, BEYOND);
        int[] were = from.clone();
        for (int i = 0; i < a[4]; i++) {
            to[a[3] + i] = were[a[1] + i];
        }
        return a[4];
    }

    private static boolean isUnder(int kind, int wanted) {
        Class<?> is = Model.RULES[kind].getClass();
        return Model.RULES[wanted].getClass().isAssignableFrom(is);
    }

    private long toldOfImages(String name, int[] a) {
        switch (name) {
            case "image":
                keptModel = m.twin();
                keptSpots = spots.clone();
                return 1;
            case "undo":
                need(keptModel != null, NONE);
                m = keptModel.twin();
                spots = keptSpots.clone();
                return m.minute;
            case "tear":
                int was = keptModel == null ? 0 : 1;
                keptModel = null;
                return was;
            case "count":
                range(a[0], 0, 7);
                int held = 0;
                for (int spot : spots) {
                    held += spot < 0 ? 0 : 1;
                }
                return new int[] {m.minute, m.many, m.sum(5), m.sum(6), m.till, tape.length(), m.z, held}[a[0]];
            default:
                range(a[0], -1, 6);
                int all = 0;
                for (int one : found) {
                    all += one;
                }
                return a[0] < 0 ? all : found[a[0]];
        }
    }
}
