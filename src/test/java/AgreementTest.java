import java.util.Random;

/** Many booths with chance numbers (of fixed seeds): what BoothFlash answers is what Model tells. */
public final class AgreementTest {
    private static final int BOOTHS = 1500;

    private final Check check;
    private final Random random;
    private final BoothFlash x = new BoothFlash();
    private final Model m = new Model();

    private AgreementTest(Check check, int number) {
        this.check = check;
        this.random = new Random(number);
    }

    public static void main(String[] args) {
        Check check = new Check("AgreementTest");
        for (int i = 0; i < BOOTHS; i++) {
            AgreementTest test = new AgreementTest(check, i);
            test.build(i % 9);
            test.compareNow();
            test.compareWhatWillBe();
            test.compareHowToSit();
            test.compareRefusals();
            test.compareActs();
        }
        check.end();
    }

    private int upTo(int most) {
        return random.nextInt(most + 1);
    }

    private boolean chance(int outOf) {
        return random.nextInt(outOf) == 0;
    }

    private void build(int sitters) {
        set(0, m.stool = upTo(60));
        set(1, m.light = chance(3) ? upTo(9) : 2 + upTo(5));
        set(2, m.price = chance(2) ? upTo(20) : upTo(5));
        set(3, m.till = chance(8) ? 99999 - upTo(40) : upTo(500));
        for (int s = 0; s < sitters; s++) {
            int tall = chance(4) ? upTo(90) : Math.max(0, Math.min(90, 80 - m.stool + upTo(16) - 8));
            int kind = upTo(6);
            check.due("sitter", x.sitter(kind, tall), m.add(kind, tall));
            change(s, 2, upTo(9));
            change(s, 3, chance(3) ? upTo(9) : upTo(5));
            change(s, 4, chance(8) ? 990 + upTo(9) : upTo(60));
            change(s, 5, chance(10) ? 990 + upTo(9) : upTo(3));
            change(s, 6, chance(10) ? 9995 + upTo(4) : upTo(9));
        }
        for (int p = 0; p < 6; p++) {
            int s = chance(6) ? -1 : upTo(sitters) - 1;
            m.places[p] = s;
            check.due("queue", x.queue(p, s), -1);
        }
        m.z = random.nextInt();
        check.due("seed", x.seed(m.z), 1);
        if (chance(2)) {
            int n = 1 + upTo(30);
            m.minutes(n);
            check.due("go", x.go(n), m.sum(5));
        }
    }

    private void set(int what, int v) {
        x.set(what, v);
        check.due("booth " + what, x.booth(what), v);
    }

    private void change(int s, int what, int v) {
        check.due("change " + what, x.change(s, what, v), m.who[s][what]);
        m.who[s][what] = v;
    }

    private void compareState(String when) {
        check.due(when + " stool", x.booth(0), m.stool);
        check.due(when + " light", x.booth(1), m.light);
        check.due(when + " price", x.booth(2), m.price);
        check.due(when + " till", x.booth(3), m.till);
        check.due(when + " minute", x.now(0), m.minute);
        check.due(when + " z", x.count(6), m.z);
        for (int p = 0; p < 6; p++) {
            check.due(when + " place " + p, x.place(p), m.places[p]);
        }
        for (int s = 0; s < m.many; s++) {
            for (int what = 0; what <= 6; what++) {
                check.due(when + " of " + s + " " + what, x.of(s, what), m.who[s][what]);
            }
        }
    }

    private void compareNow() {
        compareState("at first");
        int clear = 0;
        int common = m.many == 0 ? 0 : 31;
        for (int s = 0; s < m.many; s++) {
            check.due("of 7", x.of(s, 7), m.off(s));
            check.due("of 8", x.of(s, 8), m.may(s));
            int best = 0;
            for (int f = 0; f < 4; f++) {
                int faults = m.faults(s, f);
                check.due("faults " + s + " " + f, x.faults(s, f), faults);
                common &= faults;
                best = Integer.bitCount(faults) < Integer.bitCount(m.faults(s, best)) ? f : best;
            }
            check.due("best", x.best(s), best);
            clear |= m.clear(s) ? 1 << s : 0;
        }
        check.due("now 1", x.now(1), m.sum(5));
        check.due("now 2", x.now(2), m.sum(6));
        check.due("now 3", x.now(3), m.sum(4));
        check.due("now 4", x.now(4), m.places[m.minute % 6]);
        check.due("now 5", x.now(5), clear);
        check.due("now 6", x.now(6), common);
    }

    private void compareWhatWillBe() {
        for (int s = 0; s < m.many; s++) {
            int n = chance(2) ? upTo(20) : upTo(200);
            Model then = m.twin().minutes(n);
            int what = 2 + upTo(4);
            check.due("ahead " + what + " " + n, x.ahead(s, what, n), then.who[s][what]);
            check.due("later 0 " + n, x.later(0, n), then.stool);
            check.due("later 3 " + n, x.later(3, n), then.till);
            compareWaits(s);
        }
        int all = m.many == 0 ? Check.STATE : Check.NONE;
        Model then = m.twin();
        for (int n = 0; n <= 200 && m.many > 0 && all < 0; n++) {
            boolean each = true;
            for (int s = 0; s < m.many; s++) {
                each = each && then.who[s][5] > 0;
            }
            all = each ? n : all;
            then.minutes(1);
        }
        check.due("all", x.all(), all);
    }

    private void compareWaits(int s) {
        int v = Math.min(999, m.who[s][5] + upTo(8));
        int when = Check.NONE;
        int broke = Check.NONE;
        Model then = m.twin();
        for (int n = 0; n <= 200; n++) {
            when = when < 0 && then.who[s][5] >= v ? n : when;
            broke = broke < 0 && then.who[s][4] < then.price ? n : broke;
            then.minutes(1);
        }
        check.due("when " + s + " " + v, x.when(s, v), when);
        check.due("broke " + s, x.broke(s), broke);
    }

    private void compareHowToSit() {
        for (int s = 0; s < m.many; s++) {
            int n = chance(3) ? upTo(60) : upTo(12);
            check.due("stoolFor", x.stoolFor(s), stoolFor(s));
            check.due("lightFor " + n, x.lightFor(s, n), lightFor(s, n));
            check.due("turnFor " + n, x.turnFor(s, n), turnFor(s, n));
            check.due("kindFor " + n, x.kindFor(s, n), kindFor(s, n));
            check.due("merryFor " + n, x.merryFor(s, n), merryFor(s, n));
        }
        if (m.many > 0) {
            int s = upTo(m.many - 1);
            int n = upTo(20);
            int v = Math.min(999, m.who[s][5] + upTo(3));
            check.due("away " + v + " " + n, x.away(s, v, n), away(s, v, n));
        }
        int n = upTo(60);
        int best = 0;
        for (int price = 1; price <= 20; price++) {
            best = tillAt(price, n) > tillAt(best, n) ? price : best;
        }
        check.due("priceFor " + n, x.priceFor(n), best);
    }

    private int tillAt(int price, int n) {
        Model then = m.twin();
        then.price = price;
        return then.minutes(n).till;
    }

    private int stoolFor(int s) {
        int best = 0;
        int fewest = 1000;
        for (int stool = 0; stool <= 60; stool++) {
            Model then = m.twin();
            then.stool = stool;
            int together = 0;
            for (int f = 0; f < 4; f++) {
                together += Integer.bitCount(then.faults(s, f));
            }
            if (together < fewest) {
                fewest = together;
                best = stool;
            }
        }
        return best;
    }

    private int lightFor(int s, int n) {
        for (int light = 0; light <= 9; light++) {
            Model then = m.twin();
            then.light = light;
            if (then.minutes(n).who[s][5] > m.who[s][5]) {
                return light;
            }
        }
        return Check.NONE;
    }

    private int turnFor(int s, int n) {
        int best = -1;
        int most = -1;
        for (int p = 0; p < 6; p++) {
            Model then = m.twin();
            then.places[p] = s;
            int taken = then.minutes(n).who[s][5];
            best = taken > most ? p : best;
            most = Math.max(most, taken);
        }
        return best;
    }

    private int kindFor(int s, int n) {
        int best = -1;
        int most = -1;
        for (int kind = 0; kind <= 6; kind++) {
            Model then = m.twin();
            then.who[s][0] = kind;
            int taken = then.minutes(n).who[s][5];
            best = taken > most ? kind : best;
            most = Math.max(most, taken);
        }
        return best;
    }

    private int merryFor(int s, int n) {
        int best = Check.NONE;
        for (int merry = 0; merry <= 9; merry++) {
            Model then = m.twin();
            then.who[s][3] = merry;
            best = then.minutes(n).who[s][5] > m.who[s][5] ? merry : best;
        }
        return best;
    }

    private int away(int s, int v, int n) {
        for (int size = 0; size < m.many; size++) {
            for (int set = 0; set < 1 << m.many; set++) {
                if (Integer.bitCount(set) != size || (set >> s & 1) == 1) {
                    continue;
                }
                Model then = m.twin();
                for (int p = 0; p < 6; p++) {
                    boolean goes = then.places[p] >= 0 && (set >> then.places[p] & 1) == 1;
                    then.places[p] = goes ? -1 : then.places[p];
                }
                if (then.minutes(n).who[s][5] >= v) {
                    return set;
                }
            }
        }
        return Check.NONE;
    }

    private void compareRefusals() {
        for (int s = 0; s < m.many && s < 3; s++) {
            int told = upTo(5);
            x.sheet(0, 8, told);
            int[] asked = new int[told];
            Model told91 = m.twin();
            told91.who[s][1] = upTo(90);
            for (int f = 0; f < told; f++) {
                asked[f] = f < 4 && !chance(3) ? told91.faults(s, f) : -1;
                asked[f] = chance(12) ? upTo(31) : asked[f];
                x.write(0, f, asked[f]);
            }
            int many = 0;
            int least = Check.NONE;
            for (int tall = 0; tall <= 90; tall++) {
                told91.who[s][1] = tall;
                boolean fits = true;
                for (int f = 0; f < 4 && f < told; f++) {
                    fits = fits && (asked[f] == -1 || asked[f] == told91.faults(s, f));
                }
                many += fits ? 1 : 0;
                least = fits && least < 0 ? tall : least;
            }
            check.due("fits", x.fits(0, s), many);
            check.due("tall", x.tall(0, s), least);
            compareKinds(s);
            compareOdds(s);
        }
    }

    private void compareKinds(int s) {
        int told = upTo(20);
        x.sheet(1, 16, told);
        int[] asked = new int[told];
        Model truth = m.twin();
        truth.who[s][0] = upTo(6);
        for (int i = 0; i < told; i++) {
            asked[i] = chance(3) ? -1 : truth.who[s][5];
            x.write(1, i, asked[i]);
            truth.minutes(1);
        }
        int set = 0;
        for (int kind = 0; kind <= 6; kind++) {
            Model then = m.twin();
            then.who[s][0] = kind;
            boolean so = true;
            for (int i = 0; i < told; i++) {
                so = so && (asked[i] == -1 || asked[i] == then.who[s][5]);
                then.minutes(1);
            }
            set |= so ? 1 << kind : 0;
        }
        check.due("kinds", x.kinds(1, s), set);
    }

    private void compareOdds(int s) {
        int f = upTo(3);
        int n = upTo(18);
        long good = 0;
        for (int light = 0; light < 10; light++) {
            Model then = m.twin();
            then.light = light;
            good += then.faults(s, f) == 0 ? 1 : 0;
        }
        long above = 1;
        long below = 1;
        for (int i = 0; i < n; i++) {
            above *= good;
            below *= 10;
        }
        long a = above;
        long b = below;
        while (b != 0) {
            long rest = a % b;
            a = b;
            b = rest;
        }
        check.due("odds above", x.odds(s, f, n, 0), above / a);
        check.due("odds below", x.odds(s, f, n, 1), below / a);
    }

    private void compareActs() {
        compareState("after asking");
        x.image();
        Model before = m.twin();
        int n = 1 + upTo(19);
        for (int i = 0; i < n; i++) {
            m.light = m.draw() % 10;
            int s = m.draw() % 8;
            m.places[m.minute % 6] = s < m.many ? s : m.places[m.minute % 6];
            m.minutes(1);
        }
        check.due("lamps", x.lamps(n), m.sum(5));
        compareState("after lamps");
        check.due("undo", x.undo(), before.minute);
        check.due("z after undo", x.count(6), before.z);
        check.due("TAKEN after undo", x.now(1), before.sum(5));
        check.due("COINS after undo", x.now(3), before.sum(4));
    }
}
