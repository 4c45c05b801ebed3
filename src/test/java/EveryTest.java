/**
 * Every KIND with every STILL, MERRY and LIGHT in each of twelve MINUTES (after which SHUT begins again), and
 * every TALL on every STOOL: FAULTS and what is asked of them, held against Model. No object has 512 calls.
 */
public final class EveryTest {
    private static final int ROUND = 12;

    private static final Check CHECK = new Check("EveryTest");

    public static void main(String[] args) {
        for (int kind = 0; kind <= 6; kind++) {
            for (int still = 0; still <= 9; still++) {
                for (int minute = 0; minute < ROUND; minute++) {
                    for (int light = 0; light <= 9; light++) {
                        everyMerry(kind, still, minute, light);
                    }
                }
                for (int stool = 0; stool <= 60; stool++) {
                    everyTall(kind, still, stool);
                }
            }
        }
        CHECK.end();
    }

    private static void due(String call, long got, long want) {
        CHECK.due(call, got, want);
    }

    // Promises 9, 10 and 12
    private static void everyMerry(int kind, int still, int minute, int light) {
        BoothFlash x = new BoothFlash();
        Model m = new Model();
        x.sitter(kind, 60);
        m.add(kind, 60);
        x.change(0, 2, still);
        m.who[0][2] = still;
        if (minute > 0) {
            x.go(minute);
        }
        m.minutes(minute);
        x.set(1, light);
        m.light = light;
        for (int merry = 0; merry <= 9; merry++) {
            x.change(0, 3, merry);
            m.who[0][3] = merry;
            everyFlash("KIND " + kind + ", STILL " + still + ", MINUTE " + minute + ", LIGHT " + light
                + ", MERRY " + merry, x, m);
        }
    }

    private static void everyFlash(String label, BoothFlash x, Model m) {
        int common = 31;
        int fewest = 99;
        int best = -1;
        for (int f = 0; f <= 3; f++) {
            int faults = m.faults(0, f);
            due(label + ": faults of FLASH " + f, x.faults(0, f), faults);
            common &= faults;
            if (Integer.bitCount(faults) < fewest) {
                fewest = Integer.bitCount(faults);
                best = f;
            }
        }
        due(label + ": best", x.best(0), best);
        due(label + ": now 5", x.now(5), fewest == 0 ? 1 : 0);
        due(label + ": now 6", x.now(6), common);
    }

    // Promises 7, 9 and 14
    private static void everyTall(int kind, int still, int stool) {
        BoothFlash x = new BoothFlash();
        Model m = new Model();
        x.sitter(kind, 60);
        m.add(kind, 60);
        x.change(0, 2, still);
        m.who[0][2] = still;
        x.queue(0, 0);
        m.places[0] = 0;
        x.set(0, stool);
        m.stool = stool;
        String label = "KIND " + kind + ", STILL " + still + ", STOOL " + stool + ", TALL ";
        for (int tall = 0; tall <= 90; tall++) {
            x.change(0, 1, tall);
            m.who[0][1] = tall;
            due(label + tall + ": OFF", x.of(0, 7), m.off(0));
            due(label + tall + ": faults of FLASH 1", x.faults(0, 1), m.faults(0, 1));
            due(label + tall + ": STOOL a MINUTE on", x.later(0, 1), m.twin().minutes(1).stool);
            due(label + tall + ": TAKEN a MINUTE on", x.ahead(0, 5, 1), m.twin().minutes(1).who[0][5]);
        }
    }
}
