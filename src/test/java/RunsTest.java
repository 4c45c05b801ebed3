import java.util.Random;

/**
 * Runs of 512 calls on one object (as many as the document allows), of all calls in chance order: each
 * answers what Whole, the object told a second time, does. Of several wrong answers of a run the first is told.
 */
public final class RunsTest {
    private static final int RUNS = 1200;
    private static final int CALLS = 512;
    private static final int LEAST = Integer.MIN_VALUE;
    private static final int GREATEST = Integer.MAX_VALUE;
    /* What each argument of a call is, in the order of Whole.NAMES: see usual(). */
    private static final String[] ARGUMENTS = {
        "wv", "w", "pS", "p", "kt", "so", "scv", "sf", "s", "m", "n", "sam", "lm", "su",
        "s", "", "s", "sm", "sm", "sm", "sm", "m", "sum", "hs", "hs", "hs", "d", "sfdb", "z", "ye",
        "", "", "iS", "ik", "hxj", "hgv", "hghgg", "h", "h", "", "", "", "q", "r"
    };
    /* How often each call comes, in the same order: acts that take all that there is come seldom. */
    private static final int[] WEIGHTS = {
        6, 2, 8, 2, 4, 4, 10, 4, 2, 6, 3, 3, 2, 2, 2, 3, 2, 2, 2, 2, 2, 2,
        2, 3, 3, 3, 3, 3, 2, 2, 1, 2, 6, 6, 3, 6, 8, 4, 4, 1, 1, 1, 3, 2
    };
    private static final String[] WORDS = {
        "sitter", "child", "glasses", "shy", "old", "twin", "baby", "queue", "stool", "light", "price",
        "tall", "still", "merry", "coins", ";", " ", "#", "talle", "0", "7", "1000"
    };

    private final Random random;
    private final BoothFlash x = new BoothFlash();
    private final Whole whole = new Whole();
    private int calls = 0;
    private String wrong = null;
    private long got;
    private long want;

    private RunsTest(int number) {
        random = new Random(number);
    }

    public static void main(String[] args) {
        Check check = new Check("RunsTest");
        long[] answered = new long[Whole.NAMES.length];
        for (int i = 0; i < RUNS; i++) {
            RunsTest run = new RunsTest(i);
            run.begin();
            while (run.calls < CALLS && run.wrong == null) {
                run.next(answered);
            }
            check.due("run " + i + ", call " + run.calls + ": " + run.wrong, run.got, run.want);
            check.isTrue("run " + i + " has no wrong answer", run.wrong == null);
        }
        for (int i = 0; i < answered.length; i++) {
            check.isTrue(Whole.NAMES[i] + " is no finding, often enough", answered[i] > RUNS / 10);
        }
        check.end();
    }

    private int upTo(int most) {
        return random.nextInt(most + 1);
    }

    private boolean chance(int outOf) {
        return random.nextInt(outOf) == 0;
    }

    private long ask(String name, int... a) {
        if (calls >= CALLS || wrong != null) {
            return 0;
        }
        calls++;
        long is = call(name, a);
        long due = whole.answer(name, a);
        if (is != due) {
            wrong = name + java.util.Arrays.toString(a);
            got = is;
            want = due;
        }
        return is;
    }

    private void begin() {
        int many = upTo(8);
        for (int s = 0; s < many; s++) {
            ask("sitter", upTo(6), 52 + upTo(16));
        }
        for (int p = 0; p < 6; p++) {
            ask("queue", p, upTo(many) - 1);
        }
    }

    private void next(long[] answered) {
        switch (upTo(30)) {
            case 0: tellFaults(); return;
            case 1: tellTaken(); return;
            case 2:
            case 3: tellText(); return;
            case 4: comeBack(); return;
            default: break;
        }
        int which = chosen();
        int[] a = new int[ARGUMENTS[which].length()];
        for (int i = 0; i < a.length; i++) {
            a[i] = chance(25) ? odd() : usual(ARGUMENTS[which].charAt(i), a);
        }
        long answer = ask(Whole.NAMES[which], a);
        answered[which] += answer < -1000000 ? 0 : 1;
    }

    private int chosen() {
        int all = 0;
        for (int weight : WEIGHTS) {
            all += weight;
        }
        int left = random.nextInt(all);
        int which = 0;
        while (left >= WEIGHTS[which]) {
            left -= WEIGHTS[which++];
        }
        return which;
    }

    private int odd() {
        int[] edges = {LEAST, GREATEST, -1, -2, 0, 4, 6, 7, 8, 9, 10, 20, 21, 40, 41, 60, 61, 91, 101, 201, 1000,
            10000, 100000};
        return chance(4) ? random.nextInt() : edges[random.nextInt(edges.length)];
    }

    /** A chance argument of a sort; some look at the arguments before them. */
    private int usual(char sort, int[] before) {
        switch (sort) {
            case 's': return upTo(Math.max(0, whole.m.many - 1));
            case 'S': return upTo(whole.m.many) - 1;
            case 'w': return chance(2) ? upTo(1) : upTo(3);
            case 'v': return value(before);
            case 'p': return upTo(5);
            case 'k': return upTo(6);
            case 't': return chance(3) ? upTo(90) : 52 + upTo(16);
            case 'o': return upTo(8);
            case 'c': return upTo(6);
            case 'f': return upTo(3);
            case 'm': return chance(8) ? upTo(200) : 1 + upTo(20);
            case 'n': return upTo(6);
            case 'a': return 2 + upTo(4);
            case 'l': return 3 * upTo(1);
            case 'd': return upTo(20);
            case 'b': return upTo(1);
            case 'z': return random.nextInt();
            case 'y': return 0x6f6c643b;
            case 'e': return 1 + upTo(3);
            case 'h': return upTo(3);
            case 'i': return upTo(9);
            case 'x': return chance(8) ? 0 : bits();
            case 'g': return chance(6) ? upTo(41) : upTo(2);
            case 'u': return taken(before[0]) + upTo(3);
            case 'j': return chance(6) ? upTo(41) : upTo(6);
            case 'q': return upTo(7);
            default: return upTo(7) - 1;
        }
    }

    private int value(int[] before) {
        switch (upTo(9)) {
            case 0: return 52 + upTo(16);
            case 1: return upTo(60);
            case 2: return upTo(999);
            case 3: return 9990 + upTo(12);
            case 4: return 99990 + upTo(12);
            case 5: return -1;
            case 6: return upTo(10) + 256 * upTo(300);
            default: return before.length == 2 && chance(2) ? 18 + upTo(6) : upTo(9);
        }
    }

    private int bits() {
        return chance(3) ? 8 << upTo(2) : 16;
    }

    private int taken(int s) {
        return s >= 0 && s < whole.m.many ? whole.m.who[s][5] : 0;
    }

    private void tellRow(int s, int[] row) {
        ask("sheet", s, bits(), row.length);
        for (int i = 0; i < row.length; i++) {
            ask("write", s, i, row[i]);
        }
    }

    /** A sheet tells the FAULTS that a SITTER of some height would have. */
    private void tellFaults() {
        int s = usual('s', null);
        if (s >= whole.m.many) {
            return;
        }
        Model then = whole.m.twin();
        then.who[s][1] = upTo(90);
        int[] row = new int[upTo(6)];
        for (int f = 0; f < row.length; f++) {
            row[f] = f > 3 || chance(3) ? -1 : then.faults(s, f);
        }
        int h = upTo(3);
        tellRow(h, row);
        ask("fits", h, s);
        ask("tall", h, s);
    }

    /** A sheet tells how often a SITTER of some kind would be TAKEN, or how often all are now. */
    private void tellTaken() {
        int s = usual('s', null);
        if (s >= whole.m.many) {
            return;
        }
        Model then = whole.m.twin();
        then.who[s][0] = upTo(6);
        int[] row = new int[upTo(14)];
        for (int i = 0; i < row.length; i++) {
            row[i] = chance(2) ? -1 : then.who[s][5];
            then.minutes(1);
        }
        int h = upTo(3);
        tellRow(h, row);
        ask("kinds", h, s);
        int[] now = new int[upTo(whole.m.many)];
        for (int i = 0; i < now.length; i++) {
            now[i] = whole.m.who[i][5] + (chance(8) ? 1 : 0);
        }
        tellRow(h, now);
        ask("judge", h);
    }

    /** Something is kept, much happens, and what was kept comes back, once or twice. */
    private void comeBack() {
        ask("image");
        long[] unused = new long[Whole.NAMES.length];
        for (int i = upTo(12); i > 0; i--) {
            next(unused);
        }
        ask("undo");
        ask("seed", random.nextInt());
        ask("sitter", upTo(6), upTo(90));
        if (chance(2)) {
            ask("undo");
        }
    }

    private void tellText() {
        StringBuilder text = new StringBuilder();
        int room = Math.max(0, 120 - whole.tape.length());
        for (int i = upTo(5); i >= 0; i--) {
            String item = item();
            if (text.length() + item.length() < room) {
                text.append(text.length() == 0 ? "" : chance(3) ? " ; " : ";").append(item);
            }
        }
        if (chance(3) && text.length() > 0) {
            int at = random.nextInt(text.length());
            int end = Math.min(text.length(), at + upTo(3));
            text.replace(at, end, WORDS[random.nextInt(WORDS.length)]);
        }
        text.setLength(Math.min(text.length(), chance(8) ? upTo(120) : 120));
        for (int i = 0; i < text.length(); ) {
            int n = Math.min(chance(4) ? 1 + upTo(3) : 4, text.length() - i);
            int bytes = random.nextInt() << 8;
            for (int k = 0; k < n; k++) {
                bytes = bytes << 8 | text.charAt(i + k);
            }
            ask("feed", bytes, n);
            i += n;
        }
        ask("text");
    }

    private String item() {
        switch (upTo(6)) {
            case 0: return "stool " + (15 + upTo(46));
            case 1: return "light " + upTo(9);
            case 2: return "price" + upTo(20);
            case 3:
            case 4: return queueItem();
            default: return sitterItem();
        }
    }

    private String queueItem() {
        StringBuilder text = new StringBuilder("queue");
        for (int i = chance(15) ? 6 : upTo(5); i >= 0; i--) {
            text.append(' ').append(chance(20) ? 8 : usual('s', null));
        }
        return text.toString();
    }

    private String sitterItem() {
        StringBuilder text = new StringBuilder(WORDS[upTo(6)]);
        String blanks = chance(6) ? "  " : " ";
        text.append(chance(2) ? "" : blanks + "tall" + blanks + (chance(20) ? 91 : 52 + upTo(16)));
        text.append(chance(2) ? "" : " still " + upTo(9));
        text.append(chance(2) ? "" : " merry" + upTo(9));
        text.append(chance(2) ? "" : " coins " + upTo(chance(20) ? 1200 : 99));
        return text.toString();
    }

    private long call(String name, int[] a) {
        switch (name) {
            case "set": return x.set(a[0], a[1]);
            case "booth": return x.booth(a[0]);
            case "queue": return x.queue(a[0], a[1]);
            case "place": return x.place(a[0]);
            case "sitter": return x.sitter(a[0], a[1]);
            case "of": return x.of(a[0], a[1]);
            case "change": return x.change(a[0], a[1], a[2]);
            case "faults": return x.faults(a[0], a[1]);
            case "best": return x.best(a[0]);
            case "go": return x.go(a[0]);
            case "now": return x.now(a[0]);
            case "ahead": return x.ahead(a[0], a[1], a[2]);
            case "later": return x.later(a[0], a[1]);
            case "when": return x.when(a[0], a[1]);
            case "broke": return x.broke(a[0]);
            case "all": return x.all();
            case "stoolFor": return x.stoolFor(a[0]);
            case "lightFor": return x.lightFor(a[0], a[1]);
            case "turnFor": return x.turnFor(a[0], a[1]);
            case "kindFor": return x.kindFor(a[0], a[1]);
            case "merryFor": return x.merryFor(a[0], a[1]);
            case "priceFor": return x.priceFor(a[0]);
            case "away": return x.away(a[0], a[1], a[2]);
            case "fits": return x.fits(a[0], a[1]);
            case "tall": return x.tall(a[0], a[1]);
            case "kinds": return x.kinds(a[0], a[1]);
            case "lamps": return x.lamps(a[0]);
            case "odds": return x.odds(a[0], a[1], a[2], a[3]);
            default: return callOfRows(name, a);
        }
    }

    private long callOfRows(String name, int[] a) {
        switch (name) {
            case "seed": return x.seed(a[0]);
            case "feed": return x.feed(a[0], a[1]);
            case "wipe": return x.wipe();
            case "text": return x.text();
            case "hold": return x.hold(a[0], a[1]);
            case "as": return x.as(a[0], a[1]);
            case "sheet": return x.sheet(a[0], a[1], a[2]);
            case "write": return x.write(a[0], a[1], a[2]);
            case "copy": return x.copy(a[0], a[1], a[2], a[3], a[4]);
            case "load": return x.load(a[0]);
            case "judge": return x.judge(a[0]);
            case "image": return x.image();
            case "undo": return x.undo();
            case "tear": return x.tear();
            case "count": return x.count(a[0]);
            case "status": return x.status(a[0]);
            default: throw new IllegalArgumentException(name);
        }
    }
}
