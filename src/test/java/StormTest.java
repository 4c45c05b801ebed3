import java.util.Random;

/**
 * Every method with arguments of all sorts: nothing is thrown, nothing that only asks changes
 * anything, and a finding changes nothing but status().
 */
public final class StormTest {
    private static final int OBJECTS = 20000;
    private static final int[] EDGES = {
        Integer.MIN_VALUE, Integer.MAX_VALUE, -1000001, -100, -2, -1, 0, 1, 2, 3, 4, 5, 6, 7, 8, 9, 10,
        11, 16, 18, 19, 20, 21, 32, 39, 40, 41, 60, 61, 90, 91, 100, 101, 120, 200, 201, 999, 1000,
        9999, 10000, 65535, 99999, 100000, 1 << 30
    };
    private static final String SIGNS = "  ;;0123456789abcdefghijklmnopqrstuvwxyz@A\t\u00ff";
    private static final String[] WORDS = {
        "sitter", "child", "glasses", "shy", "old", "twin", "baby", "queue", "stool", "light", "price",
        "tall", "still", "merry", "coins", ";", ";", ";", "0", "1", "2", "9", "10", "60", "61", "999"
    };
    private static final int METHODS = 44;

    public static void main(String[] args) {
        Check check = new Check("StormTest");
        for (int i = 0; i < OBJECTS; i++) {
            Random random = new Random(i);
            BoothFlash x = build(random);
            int method = i % METHODS;
            long[] before = snapshot(x);
            int told = x.status(-1);
            long answer = callIt(x, method, random);
            told = x.status(-1) - told;
            long[] after = snapshot(x);
            boolean isFinding = answer <= -1000001 && answer >= -1000007 && method != 28;
            check.due("findings of method " + method, told, isFinding ? 1 : 0);
            if (isFinding || onlyAsks(method)) {
                check.isTrue("nothing changes by method " + method, java.util.Arrays.equals(before, after));
            }
            check.isTrue("the state holds after method " + method, isSound(after));
        }
        check.end();
    }

    private static boolean onlyAsks(int method) {
        return method == 1 || method == 3 || method == 5 || method == 7 || method == 8
            || (method >= 10 && method <= 25) || method == 27 || method == 33 || method == 38
            || method == 42 || method == 43;
    }

    private static int any(Random random) {
        switch (random.nextInt(8)) {
            case 0: return random.nextInt();
            case 1: return random.nextInt(256) - 20;
            case 2:
            case 3: return EDGES[random.nextInt(EDGES.length)];
            default: return random.nextInt(9) - 1;
        }
    }

    private static BoothFlash build(Random random) {
        BoothFlash x = new BoothFlash();
        int many = random.nextInt(9);
        for (int s = 0; s < many; s++) {
            x.sitter(random.nextInt(7), 40 + random.nextInt(40));
            x.change(s, 2 + random.nextInt(5), random.nextInt(10));
        }
        for (int p = 0; p < 6; p++) {
            x.queue(p, random.nextInt(many + 1) - 1);
            x.hold(p, random.nextInt(many + 1) - 1);
        }
        for (int s = 0; s < 4; s++) {
            int bits = 8 << random.nextInt(3);
            x.sheet(s, random.nextInt(4) == 0 ? 0 : bits, random.nextInt(41));
            for (int i = 0; i < 6; i++) {
                x.write(s, i, random.nextInt(5) - 1);
            }
        }
        if (random.nextBoolean()) {
            x.image();
        }
        for (int i = 0; i < 20; i++) {
            feedSome(x, random);
        }
        x.go(1 + random.nextInt(100));
        return x;
    }

    private static void feedSome(BoothFlash x, Random random) {
        if (random.nextInt(20) == 0) {
            x.feed(SIGNS.charAt(random.nextInt(SIGNS.length())), 1);
        } else {
            Check.feed(x, WORDS[random.nextInt(WORDS.length)]);
            x.feed(' ', 1);
        }
    }

    private static long[] snapshot(BoothFlash x) {
        long[] all = new long[110];
        int at = 0;
        for (int what = 0; what < 4; what++) {
            all[at++] = x.booth(what);
        }
        for (int p = 0; p < 6; p++) {
            all[at++] = x.place(p);
        }
        for (int what = 0; what < 8; what++) {
            all[at++] = x.count(what);
        }
        for (int s = 0; s < 8 && s < all[5 + 6]; s++) {
            for (int what = 0; what < 9; what++) {
                all[at++] = x.of(s, what);
            }
        }
        for (int s = 0; s < 4; s++) {
            all[at++] = x.judge(s);
        }
        return all;
    }

    private static boolean isSound(long[] all) {
        boolean so = all[0] >= 0 && all[0] <= 60 && all[1] >= 0 && all[1] <= 9;
        so = so && all[2] >= 0 && all[2] <= 20 && all[3] >= 0 && all[3] <= 99999;
        for (int p = 0; p < 6; p++) {
            so = so && all[4 + p] >= -1 && all[4 + p] < all[11];
        }
        return so && all[11] <= 8 && all[15] >= 0 && all[15] <= 120;
    }

    private static long callIt(BoothFlash x, int method, Random r) {
        int a = any(r);
        int b = any(r);
        int c = any(r);
        switch (method) {
            case 0: return x.set(a, b);
            case 1: return x.booth(a);
            case 2: return x.queue(a, b);
            case 3: return x.place(a);
            case 4: return x.sitter(a, b);
            case 5: return x.of(a, b);
            case 6: return x.change(a, b, c);
            case 7: return x.faults(a, b);
            case 8: return x.best(a);
            case 9: return x.go(a);
            case 10: return x.now(a);
            case 11: return x.ahead(a, b, c);
            case 12: return x.later(a, b);
            case 13: return x.when(a, b);
            case 14: return x.broke(a);
            case 15: return x.all();
            case 16: return x.stoolFor(a);
            case 17: return x.lightFor(a, b);
            case 18: return x.turnFor(a, b);
            case 19: return x.kindFor(a, b);
            case 20: return x.merryFor(a, b);
            case 21: return x.priceFor(a);
            case 22: return x.away(a, b, c);
            case 23: return x.fits(a, b);
            case 24: return x.tall(a, b);
            case 25: return x.kinds(a, b);
            case 26: return x.lamps(a);
            case 27: return x.odds(a, b, c, any(r));
            case 28: return x.seed(a);
            case 29: return x.feed(a, b);
            case 30: return x.wipe();
            case 31: return x.text();
            case 32: return x.hold(a, b);
            case 33: return x.as(a, b);
            case 34: return x.sheet(a, b, c);
            case 35: return x.write(a, b, c);
            case 36: return x.copy(a, b, c, any(r), any(r));
            case 37: return x.load(a);
            case 38: return x.judge(a);
            case 39: return x.image();
            case 40: return x.undo();
            case 41: return x.tear();
            case 42: return x.count(a == 6 ? 5 : a);
            default: return x.status(a);
        }
    }
}
