/** The promises by their numbers (33, the texts, has TextTest beside it): each on new objects. */
public final class PromisesTest {
    private static final int BEYOND = Check.BEYOND;
    private static final int FULL = Check.FULL;
    private static final int KIND = Check.KIND;
    private static final int NONE = Check.NONE;
    private static final int STATE = Check.STATE;
    private static final int MISSING = Check.MISSING;
    private static final int SIZE = Check.SIZE;
    private static final int LEAST_INT = Integer.MIN_VALUE;
    private static final int GREATEST_INT = Integer.MAX_VALUE;

    private static final Check CHECK = new Check("PromisesTest");

    public static void main(String[] args) {
        newObject();
        setAndBooth();
        queueAndPlace();
        newSitter();
        ofSitter();
        changeSitter();
        kindsMayAndOff();
        faultsOfEyes();
        faultsOfSmiles();
        faultsOfLight();
        faultsBeyond();
        bestFlash();
        goOneMinute();
        goSeveralMinutes();
        goTurnsTheStool();
        goHasBounds();
        goPaysOut();
        nowTells();
        aheadTells();
        laterTells();
        whenTells();
        brokeTells();
        allTells();
        allUpTo200();
        stoolForTells();
        lightForTells();
        turnForTells();
        kindForTells();
        merryForTells();
        priceForTells();
        awayTells();
        fitsAndTall();
        kindsTells();
        lampsGo();
        oddsTell();
        seedTells();
        feedAndWipe();
        textTells();
        holdAndAs();
        sheetAndWrite();
        copyNumbers();
        loadQueue();
        judgeSheet();
        imageUndoTear();
        countTells();
        statusTells();
        CHECK.end();
    }

    private static void due(String call, long got, long want) {
        CHECK.due(call, got, want);
    }

    /** A booth with one SITTER of a kind in every place. */
    private static BoothFlash withOne(int kind) {
        BoothFlash x = new BoothFlash();
        x.sitter(kind, 60);
        for (int p = 0; p < 6; p++) {
            x.queue(p, 0);
        }
        return x;
    }

    // Promise 1
    private static void newObject() {
        BoothFlash x = new BoothFlash();
        due("1 stool", x.booth(0), 20);
        due("1 light", x.booth(1), 5);
        due("1 price", x.booth(2), 5);
        due("1 till", x.booth(3), 0);
        for (int p = 0; p < 6; p++) {
            due("1 place " + p, x.place(p), -1);
        }
        for (int what = 0; what <= 7; what++) {
            due("1 count " + what, x.count(what), what == 6 ? 1 : 0);
        }
        for (int which = -1; which <= 6; which++) {
            due("1 status " + which, x.status(which), 0);
        }
        for (int s = 0; s < 4; s++) {
            due("1 sheet " + s, x.load(s), MISSING);
        }
        for (int spot = 0; spot < 10; spot++) {
            due("1 spot " + spot, x.as(spot, 0), MISSING);
        }
        due("1 sitter", x.of(0, 0), BEYOND);
        due("1 tape", x.wipe(), 0);
        due("1 tear", x.tear(), 0);
        due("1 undo", x.undo(), NONE);
        BoothFlash y = new BoothFlash();
        x.set(0, 3);
        due("1 objects are apart", y.booth(0), 20);
    }

    // Promises 2 and 3
    private static void setAndBooth() {
        BoothFlash x = new BoothFlash();
        int[] first = {20, 5, 5, 0};
        int[] most = {60, 9, 20, 99999};
        for (int what = 0; what < 4; what++) {
            due("2 greatest", x.set(what, most[what]), first[what]);
            due("3 greatest", x.booth(what), most[what]);
            due("2 above", x.set(what, most[what] + 1), BEYOND);
            due("2 below", x.set(what, -1), BEYOND);
            due("2 far above", x.set(what, GREATEST_INT), BEYOND);
            due("2 far below", x.set(what, LEAST_INT), BEYOND);
            due("3 as it was", x.booth(what), most[what]);
            due("2 least", x.set(what, 0), most[what]);
            due("3 least", x.booth(what), 0);
            x.set(what, what + 1);
        }
        for (int what = 0; what < 4; what++) {
            due("3 each its own", x.booth(what), what + 1);
        }
        due("2 no such", x.set(4, 0), BEYOND);
        due("2 no such", x.set(-1, 0), BEYOND);
        due("3 no such", x.booth(4), BEYOND);
        due("3 no such", x.booth(-1), BEYOND);
        due("2 counted", x.status(0), 4 * 4 + 4);
    }

    // Promises 4 and 5
    private static void queueAndPlace() {
        BoothFlash x = new BoothFlash();
        due("4 nobody there yet", x.queue(0, 0), BEYOND);
        x.sitter(0, 60);
        x.sitter(0, 60);
        due("4", x.queue(0, 1), -1);
        due("4", x.queue(0, 0), 1);
        due("4 twice in it", x.queue(5, 0), -1);
        due("5", x.place(0), 0);
        due("5", x.place(5), 0);
        due("5 others stay", x.place(1), -1);
        due("4 away", x.queue(0, -1), 0);
        due("5 away", x.place(0), -1);
        due("4 no such place", x.queue(6, 0), BEYOND);
        due("4 no such place", x.queue(-1, 0), BEYOND);
        due("4 no such sitter", x.queue(0, 2), BEYOND);
        due("4 no such sitter", x.queue(0, -2), BEYOND);
        due("5 as it was", x.place(0), -1);
        due("5 no such", x.place(6), BEYOND);
        due("5 no such", x.place(-1), BEYOND);
    }

    // Promise 6
    private static void newSitter() {
        BoothFlash x = new BoothFlash();
        due("6 no such kind", x.sitter(7, 60), BEYOND);
        due("6 no such kind", x.sitter(-1, 60), BEYOND);
        due("6 too tall", x.sitter(0, 91), BEYOND);
        due("6 too small", x.sitter(0, -1), BEYOND);
        due("6 nobody came", x.count(1), 0);
        for (int kind = 0; kind <= 6; kind++) {
            due("6", x.sitter(kind, kind * 15), kind);
            due("6 kind", x.of(kind, 0), kind);
            due("6 tall", x.of(kind, 1), kind * 15);
            due("6 still", x.of(kind, 2), 5);
            due("6 merry", x.of(kind, 3), 3);
            due("6 coins", x.of(kind, 4), 20);
            due("6 taken", x.of(kind, 5), 0);
            due("6 tried", x.of(kind, 6), 0);
        }
        due("6 the 8th", x.sitter(0, 0), 7);
        due("6 full", x.sitter(0, 0), FULL);
        due("6 beyond is asked first", x.sitter(7, 0), BEYOND);
        due("6 beyond is asked first", x.sitter(0, 91), BEYOND);
        due("6 still 8", x.count(1), 8);
        due("6 counted", x.status(1), 1);
        BoothFlash y = new BoothFlash();
        y.image();
        y.sitter(4, 10);
        y.change(0, 2, 9);
        y.change(0, 5, 9);
        y.change(0, 6, 9);
        y.undo();
        due("6 again", y.sitter(1, 30), 0);
        due("6 as at first", y.of(0, 2), 5);
        due("6 as at first", y.of(0, 5), 0);
        due("6 as at first", y.of(0, 6), 0);
    }

    // Promise 7
    private static void ofSitter() {
        BoothFlash x = new BoothFlash();
        due("7 nobody", x.of(0, 0), BEYOND);
        x.sitter(3, 70);
        int[] want = {3, 70, 5, 3, 20, 0, 0, 10, 1};
        for (int what = 0; what <= 8; what++) {
            due("7 " + what, x.of(0, what), want[what]);
        }
        due("7 no such", x.of(0, 9), BEYOND);
        due("7 no such", x.of(0, -1), BEYOND);
        due("7 no such sitter", x.of(1, 0), BEYOND);
        due("7 no such sitter", x.of(-1, 0), BEYOND);
    }

    // Promise 8
    private static void changeSitter() {
        BoothFlash x = new BoothFlash();
        due("8 nobody", x.change(0, 1, 3), BEYOND);
        x.sitter(2, 33);
        x.sitter(0, 44);
        int[] first = {2, 33, 5, 3, 20, 0, 0};
        int[] most = {6, 90, 9, 9, 999, 999, 9999};
        for (int what = 0; what <= 6; what++) {
            due("8 greatest " + what, x.change(0, what, most[what]), first[what]);
            due("8 becomes " + what, x.of(0, what), most[what]);
            due("8 above " + what, x.change(0, what, most[what] + 1), BEYOND);
            due("8 below " + what, x.change(0, what, -1), BEYOND);
            due("8 as it was " + what, x.of(0, what), most[what]);
            due("8 least " + what, x.change(0, what, 0), most[what]);
            x.change(0, what, what);
        }
        for (int what = 0; what <= 6; what++) {
            due("8 each its own " + what, x.of(0, what), what);
        }
        due("8 other one", x.of(1, 1), 44);
        due("8 no such", x.change(0, 7, 0), BEYOND);
        due("8 no such", x.change(0, -1, 0), BEYOND);
        due("8 no such sitter", x.change(2, 1, 0), BEYOND);
    }

    // Promise 7: OFF and MAY
    private static void kindsMayAndOff() {
        BoothFlash x = new BoothFlash();
        int[] may = {2, 5, 2, 1, 2, 2, 10};
        for (int kind = 0; kind <= 6; kind++) {
            x.sitter(kind, 60);
            due("7 may of kind " + kind, x.of(kind, 8), may[kind]);
        }
        for (int still = 0; still <= 9; still++) {
            x.change(4, 2, still);
            due("7 may of OLD, still " + still, x.of(4, 8), 1 + still / 3);
            x.change(0, 2, still);
            due("7 may of SITTER", x.of(0, 8), 2);
        }
        x.change(0, 1, 90);
        due("7 off", x.of(0, 7), 30);
        x.set(0, 60);
        due("7 off", x.of(0, 7), 70);
        x.change(0, 1, 0);
        due("7 off", x.of(0, 7), 20);
        x.set(0, 0);
        due("7 off", x.of(0, 7), 80);
        for (int kind = 0; kind <= 6; kind++) {
            x.change(1, 0, kind);
            x.change(1, 2, 0);
            x.change(1, 3, 0);
            x.set(0, 40);
            int bound = kind == 4 ? 1 : may[kind];
            x.change(1, 1, 40 + bound);
            due("9 not off " + kind, x.faults(1, 1) & 1, 0);
            x.change(1, 1, 41 + bound);
            due("9 off " + kind, x.faults(1, 1) & 1, 1);
            x.change(1, 1, 40 - bound);
            due("9 not off " + kind, x.faults(1, 1) & 1, 0);
            x.change(1, 1, 39 - bound);
            due("9 off " + kind, x.faults(1, 1) & 1, 1);
        }
    }

    // Promise 9: the four FLASHES of a kind as digits to base 32, FLASH 0 first
    private static int four(BoothFlash x, int s, int mask) {
        int all = 0;
        for (int f = 0; f < 4; f++) {
            all = all * 32 + (x.faults(s, f) & mask);
        }
        return all;
    }

    private static int flashes(int a, int b, int c, int d) {
        return ((a * 32 + b) * 32 + c) * 32 + d;
    }

    private static void faultsOfEyes() {
        BoothFlash x = new BoothFlash();
        for (int kind = 0; kind <= 6; kind++) {
            x.sitter(kind, 60);
        }
        int[] asSitter = {0, 2, 5};
        for (int s : asSitter) {
            due("9 shut " + s, four(x, s, 2), flashes(0, 0, 0, 2));
            x.change(s, 2, 4);
            due("9 shut, still 4 " + s, four(x, s, 2), flashes(2, 0, 0, 0));
            x.change(s, 2, 7);
            due("9 shut, still 7 " + s, four(x, s, 2), flashes(0, 2, 0, 0));
        }
        due("9 child", four(x, 1, 2), flashes(0, 0, 0, 2));
        due("9 shy", four(x, 3, 2), flashes(2, 0, 0, 2));
        due("9 old", four(x, 4, 2), flashes(2, 0, 0, 2));
        due("9 baby", four(x, 6, 2), flashes(2, 0, 2, 0));
        x.set(1, 3);
        due("9 old in dim light", four(x, 4, 2), flashes(0, 0, 0, 0));
        due("9 shy in dim light", four(x, 3, 2), flashes(2, 0, 0, 2));
        x.set(1, 4);
        due("9 old, light 4", four(x, 4, 2), flashes(2, 0, 0, 2));
        x.set(1, 7);
        due("9 child, light 7", four(x, 1, 2), flashes(0, 0, 0, 2));
        x.set(1, 8);
        due("9 child, light 8", four(x, 1, 2), flashes(2, 2, 2, 2));
        due("9 baby, light 8", four(x, 6, 2), flashes(2, 0, 2, 0));
        due("9 sitter, light 8", four(x, 0, 2), flashes(0, 2, 0, 0));
        x.go(1);
        due("9 sitter a minute on", four(x, 0, 2), flashes(2, 0, 0, 0));
        due("9 shy a minute on", four(x, 3, 2), flashes(0, 0, 2, 0));
        due("9 baby a minute on", four(x, 6, 2), flashes(2, 0, 2, 0));
    }

    private static void faultsOfSmiles() {
        BoothFlash x = new BoothFlash();
        for (int kind = 0; kind <= 6; kind++) {
            x.sitter(kind, 60);
        }
        int[][] want = new int[10][];
        for (int merry = 0; merry <= 9; merry++) {
            boolean some = merry > 2;
            boolean much = merry > 5;
            int always = much ? 4 : 0;
            int sitter = flashes(always, always, always, some ? 4 : 0);
            int twin = flashes(0, always, always, some ? 4 : 0);
            int child = flashes(merry > 4 ? 4 : 0, merry > 3 ? 4 : 0, merry > 2 ? 4 : 0, merry > 1 ? 4 : 0);
            want[merry] = new int[] {sitter, child, sitter, 0, 0, twin, 0};
        }
        for (int merry = 0; merry <= 9; merry++) {
            for (int kind = 0; kind <= 6; kind++) {
                x.change(kind, 3, merry);
                due("9 smiles " + kind + ", merry " + merry, four(x, kind, 4), want[merry][kind]);
            }
        }
    }

    private static void faultsOfLight() {
        BoothFlash x = new BoothFlash();
        for (int kind = 0; kind <= 6; kind++) {
            x.sitter(kind, 60);
        }
        for (int light = 0; light <= 9; light++) {
            x.set(1, light);
            int dim = light < 2 ? 16 : 0;
            int seven = dim + (light >= 7 ? 8 : 0);
            int six = dim + (light >= 6 ? 8 : 0);
            int[] want = {dim, dim, seven, seven, six, dim, dim};
            for (int kind = 0; kind <= 6; kind++) {
                int w = want[kind];
                due("9 light " + light + " kind " + kind, four(x, kind, 24), flashes(w, w, w, w));
            }
        }
        x.set(1, 1);
        x.change(1, 1, 0);
        x.change(1, 3, 9);
        x.change(1, 2, 4);
        due("9 all but shine", x.faults(1, 0), 23);
        x.change(2, 1, 90);
        x.change(2, 3, 9);
        x.change(2, 2, 4);
        x.set(1, 9);
        due("9 all but dim", x.faults(2, 0), 15);
    }

    private static void faultsBeyond() {
        BoothFlash x = new BoothFlash();
        due("9 nobody", x.faults(0, 0), BEYOND);
        x.sitter(0, 60);
        due("9 plain", x.faults(0, 0), 0);
        due("9 plain", x.faults(0, 3), 6);
        due("9 no such flash", x.faults(0, 4), BEYOND);
        due("9 no such flash", x.faults(0, -1), BEYOND);
        due("9 no such sitter", x.faults(1, 0), BEYOND);
        due("9 no such sitter", x.faults(-1, 0), BEYOND);
    }

    // Promise 10
    private static void bestFlash() {
        BoothFlash x = new BoothFlash();
        due("10 nobody", x.best(0), BEYOND);
        x.sitter(0, 60);
        due("10 the least of several", x.best(0), 0);
        x.change(0, 2, 4);
        due("10 flash 0 is shut", x.best(0), 1);
        x.sitter(6, 60);
        due("10 baby", x.best(1), 1);
        x.sitter(5, 60);
        x.change(2, 3, 9);
        due("10 twin who doesn't smile at 0", x.best(2), 0);
        x.change(2, 2, 4);
        due("10 one fault each: the least", x.best(2), 0);
        x.sitter(1, 60);
        x.change(3, 3, 4);
        x.change(3, 2, 4);
        due("10 child: 2, 4, 4, 4", x.best(3), 0);
        x.change(3, 3, 3);
        due("10 child: 2, 0, 4, 4", x.best(3), 1);
        x.sitter(3, 60);
        due("10 shy: 2, 0, 0, 2", x.best(4), 1);
        x.change(3, 3, 9);
        x.change(3, 2, 5);
        due("10 a number of faults, not their sum", x.best(3), 0);
        due("10 no such", x.best(-1), BEYOND);
        due("10 no such", x.best(5), BEYOND);
    }

    // Promise 11
    private static void goOneMinute() {
        BoothFlash x = new BoothFlash();
        due("11 alone", x.go(1), 0);
        due("11 minute", x.now(0), 1);
        due("11 stool", x.booth(0), 20);
        BoothFlash y = withOne(0);
        due("11", y.go(1), 1);
        due("11 coins", y.of(0, 4), 15);
        due("11 till", y.booth(3), 5);
        due("11 tried", y.of(0, 6), 1);
        due("11 taken", y.of(0, 5), 1);
        due("11 still", y.of(0, 2), 6);
        due("11 merry", y.of(0, 3), 3);
        BoothFlash z = withOne(0);
        z.set(1, 1);
        due("11 dim", z.go(1), 0);
        due("11 dim, tried", z.of(0, 6), 1);
        due("11 dim, merry", z.of(0, 3), 2);
        due("11 dim, still", z.of(0, 2), 5);
        due("11 dim, coins", z.of(0, 4), 15);
        BoothFlash p = withOne(0);
        p.change(0, 4, 4);
        due("11 poor", p.go(1), 0);
        due("11 poor, coins", p.of(0, 4), 4);
        due("11 poor, tried", p.of(0, 6), 0);
        due("11 poor, merry", p.of(0, 3), 3);
        due("11 poor, till", p.booth(3), 0);
        due("11 just enough", p.change(0, 4, 5), 4);
        due("11 just enough", p.go(1), 1);
        due("11 just enough, coins", p.of(0, 4), 0);
    }

    private static void goSeveralMinutes() {
        BoothFlash x = new BoothFlash();
        x.sitter(0, 60);
        x.sitter(0, 60);
        x.queue(1, 1);
        x.queue(4, 0);
        due("11 place 0: nobody", x.go(1), 0);
        due("11 place 1", x.go(1), 1);
        due("11 its turn", x.of(1, 5), 1);
        due("11 places 2, 3", x.go(2), 1);
        due("11 place 4", x.go(1), 2);
        due("11 its turn", x.of(0, 5), 1);
        due("11 round again", x.go(3), 3);
        due("11 twice", x.of(1, 5), 2);
        due("11 minute", x.now(0), 8);
        due("11 coins", x.of(1, 4), 20 - 5 - 5 + 3);
        due("11 none", x.go(0), BEYOND);
        due("11 below", x.go(-1), BEYOND);
        due("11 above", x.go(101), BEYOND);
        due("11 far above", x.go(GREATEST_INT), BEYOND);
        due("11 as it was", x.now(0), 8);
        x.go(100);
        due("11 hundred", x.now(0), 108);
    }

    private static void goTurnsTheStool() {
        BoothFlash x = withOne(0);
        x.change(0, 1, 50);
        x.go(1);
        due("11 up by 4", x.booth(0), 24);
        x.go(1);
        due("11 up by 4", x.booth(0), 28);
        x.go(1);
        due("11 up by 2", x.booth(0), 30);
        x.change(0, 4, 99);
        x.change(0, 1, 57);
        x.go(1);
        due("11 down by 4", x.booth(0), 26);
        x.go(1);
        due("11 down by 3", x.booth(0), 23);
        x.set(0, 59);
        x.change(0, 1, 0);
        x.go(1);
        due("11 not above 60", x.booth(0), 60);
        x.set(0, 1);
        x.change(0, 1, 90);
        x.go(1);
        due("11 not below 0", x.booth(0), 0);
        x.change(0, 4, 0);
        x.change(0, 1, 60);
        x.go(1);
        due("11 who doesn't pay turns nothing", x.booth(0), 0);
        BoothFlash y = withOne(0);
        y.change(0, 1, 54);
        due("11 the stool turns before the flashes", y.go(1), 1);
        BoothFlash z = withOne(0);
        z.change(0, 1, 53);
        due("11 too far to turn", z.go(1), 0);
    }

    private static void goHasBounds() {
        BoothFlash x = withOne(0);
        x.set(3, 99997);
        x.change(0, 2, 9);
        x.change(0, 5, 999);
        x.change(0, 6, 9999);
        due("11 taken at most", x.go(1), 999);
        due("11 till at most", x.booth(3), 99999);
        due("11 still at most", x.of(0, 2), 9);
        due("11 tried at most", x.of(0, 6), 9999);
        x.set(1, 0);
        x.change(0, 3, 0);
        x.go(1);
        due("11 merry at least", x.of(0, 3), 0);
        BoothFlash y = withOne(0);
        y.set(2, 0);
        y.change(0, 4, 0);
        due("11 price 0", y.go(1), 1);
        due("11 price 0", y.booth(3), 0);
    }

    private static void goPaysOut() {
        BoothFlash x = new BoothFlash();
        x.sitter(0, 60);
        x.sitter(0, 60);
        x.change(1, 4, 998);
        x.go(5);
        due("11 not yet", x.of(0, 4), 20);
        x.go(1);
        due("11 all get 3", x.of(0, 4), 23);
        due("11 at most", x.of(1, 4), 999);
        x.go(6);
        due("11 again", x.of(0, 4), 26);
        due("11 at most", x.of(1, 4), 999);
    }

    // Promise 12
    private static void nowTells() {
        BoothFlash x = new BoothFlash();
        int[] empty = {0, 0, 0, 0, -1, 0, 0};
        for (int what = 0; what <= 6; what++) {
            due("12 empty " + what, x.now(what), empty[what]);
        }
        due("12 no such", x.now(7), BEYOND);
        due("12 no such", x.now(-1), BEYOND);
        x.sitter(0, 60);
        x.sitter(0, 63);
        x.sitter(6, 69);
        x.queue(1, 2);
        x.change(0, 5, 7);
        x.change(2, 5, 4);
        x.change(1, 6, 11);
        x.change(2, 6, 5);
        x.change(0, 4, 1);
        due("12 minute", x.now(0), 0);
        due("12 taken", x.now(1), 11);
        due("12 tried", x.now(2), 16);
        due("12 coins", x.now(3), 41);
        due("12 next: nobody", x.now(4), -1);
        due("12 clear, in the queue or not", x.now(5), 1 + 4);
        due("12 common", x.now(6), 0);
        x.go(1);
        due("12 minute", x.now(0), 1);
        due("12 next", x.now(4), 2);
        x.set(1, 0);
        due("12 clear in the dark", x.now(5), 0);
        due("12 common in the dark", x.now(6), 16);
        x.set(1, 9);
        x.set(0, 60);
        due("12 all off", x.now(6), 1);
        x.change(2, 0, 3);
        x.change(1, 0, 3);
        x.change(0, 0, 3);
        due("12 all shine, too", x.now(6), 9);
    }

    // Promise 13
    private static void aheadTells() {
        BoothFlash x = new BoothFlash();
        due("13 nobody", x.ahead(0, 2, 0), BEYOND);
        x.sitter(0, 60);
        x.queue(0, 0);
        int[] first = {0, 0, 5, 3, 20, 0, 0};
        int[] second = {0, 0, 6, 3, 15, 1, 1};
        for (int what = 2; what <= 6; what++) {
            due("13 now " + what, x.ahead(0, what, 0), first[what]);
            due("13 in 1 " + what, x.ahead(0, what, 1), second[what]);
        }
        due("13 in 6", x.ahead(0, 4, 6), 18);
        due("13 in 7", x.ahead(0, 4, 7), 13);
        due("13 merry", withDim().ahead(0, 3, 2), 1);
        due("13 in 200", x.ahead(0, 6, 200) > 6 ? 1 : 0, 1);
        due("13 above", x.ahead(0, 2, 201), BEYOND);
        due("13 below", x.ahead(0, 2, -1), BEYOND);
        due("13 kind", x.ahead(0, 0, 1), BEYOND);
        due("13 tall", x.ahead(0, 1, 1), BEYOND);
        due("13 off", x.ahead(0, 7, 1), BEYOND);
        due("13 no such sitter", x.ahead(1, 2, 1), BEYOND);
        due("13 nothing changes", x.of(0, 4), 20);
        due("13 nothing changes", x.now(0), 0);
    }

    private static BoothFlash withDim() {
        BoothFlash x = withOne(0);
        x.set(1, 0);
        return x;
    }

    // Promise 14
    private static void laterTells() {
        BoothFlash x = withOne(0);
        x.change(0, 1, 40);
        due("14 stool now", x.later(0, 0), 20);
        due("14 stool", x.later(0, 1), 24);
        due("14 stool", x.later(0, 4), 36);
        due("14 till now", x.later(3, 0), 0);
        due("14 till", x.later(3, 2), 10);
        due("14 till when broke", x.later(3, 5), 20);
        due("14 till after pay", x.later(3, 13), 25);
        due("14 in 200", x.later(3, 200), 20 + 99 / 5 * 5);
        due("14 light", x.later(1, 1), BEYOND);
        due("14 price", x.later(2, 1), BEYOND);
        due("14 no such", x.later(4, 1), BEYOND);
        due("14 no such", x.later(-1, 1), BEYOND);
        due("14 above", x.later(0, 201), BEYOND);
        due("14 below", x.later(0, -1), BEYOND);
        due("14 nothing changes", x.booth(0), 20);
    }

    // Promise 15
    private static void whenTells() {
        BoothFlash x = new BoothFlash();
        due("15 nobody", x.when(0, 0), BEYOND);
        x.sitter(0, 60);
        x.queue(2, 0);
        x.set(2, 0);
        due("15 now", x.when(0, 0), 0);
        due("15 first", x.when(0, 1), 3);
        due("15 second", x.when(0, 2), 9);
        due("15 above 200", x.when(0, 999), NONE);
        x.change(0, 5, 998);
        due("15 now", x.when(0, 998), 0);
        due("15 greatest", x.when(0, 999), 3);
        due("15 above", x.when(0, 1000), BEYOND);
        due("15 below", x.when(0, -1), BEYOND);
        due("15 no such sitter", x.when(1, 0), BEYOND);
        BoothFlash y = new BoothFlash();
        y.sitter(6, 60);
        y.set(2, 0);
        y.queue(1, 0);
        due("15 the last minute that counts", y.when(0, 34), 200);
        due("15 too late", y.when(0, 35), NONE);
    }

    // Promise 16
    private static void brokeTells() {
        BoothFlash x = withOne(0);
        due("16", x.broke(0), 4);
        x.set(2, 20);
        due("16", x.broke(0), 1);
        x.change(0, 4, 19);
        due("16 now", x.broke(0), 0);
        x.set(2, 0);
        due("16 never", x.broke(0), NONE);
        x.set(2, 3);
        x.change(0, 4, 3 * 167 + 2);
        due("16 three a minute, three more a round", x.broke(0), 200);
        x.change(0, 4, 3 * 168);
        due("16 a minute too late", x.broke(0), NONE);
        due("16 no such", x.broke(1), BEYOND);
        due("16 no such", x.broke(-1), BEYOND);
    }

    // Promise 17
    private static void allTells() {
        BoothFlash x = new BoothFlash();
        due("17 nobody", x.all(), STATE);
        x.sitter(0, 60);
        due("17 not in the queue", x.all(), NONE);
        x.queue(3, 0);
        due("17 one", x.all(), 4);
        x.sitter(5, 60);
        due("17 one is not in the queue", x.all(), NONE);
        x.queue(5, 1);
        due("17 both", x.all(), 6);
        x.change(1, 5, 1);
        due("17 one is taken", x.all(), 4);
        x.change(0, 5, 999);
        due("17 both are", x.all(), 0);
        due("17 findings", x.status(4), 1);
        due("17 findings", x.status(3), 2);
    }

    /** One turns the stool away until its COINS are gone; then it comes back, turn by turn of another. */
    private static BoothFlash withOneWhoTurns(int coins) {
        BoothFlash x = new BoothFlash();
        x.sitter(0, 60);
        x.sitter(0, 0);
        x.queue(0, 1);
        x.queue(1, 0);
        x.queue(5, 1);
        x.set(2, 20);
        x.change(0, 4, 999);
        x.change(1, 4, coins);
        x.change(1, 5, 1);
        x.set(0, 40);
        return x;
    }

    private static void allUpTo200() {
        int atTheLast = 0;
        int tooLate = 0;
        for (int coins = 700; coins <= 999; coins += 5) {
            BoothFlash x = withOneWhoTurns(coins);
            int want = NONE;
            for (int n = 200; n >= 0 && x.ahead(0, 5, n) > 0; n--) {
                want = n;
            }
            due("17 coins " + coins, x.all(), want);
            due("15 coins " + coins, x.when(0, 1), want);
            atTheLast += want == 200 ? 1 : 0;
            tooLate += want == NONE ? 1 : 0;
        }
        CHECK.isTrue("17 some at 200, some too late", atTheLast > 0 && tooLate > 0);
    }

    // Promise 18
    private static void stoolForTells() {
        BoothFlash x = new BoothFlash();
        due("18 nobody", x.stoolFor(0), BEYOND);
        int[] want = {18, 15, 18, 19, 18, 18, 10};
        for (int kind = 0; kind <= 6; kind++) {
            x.sitter(kind, 60);
            due("18 kind " + kind, x.stoolFor(kind), want[kind]);
        }
        x.change(0, 1, 90);
        due("18 never on the line", x.stoolFor(0), 0);
        x.change(0, 1, 82);
        due("18 just on it", x.stoolFor(0), 0);
        x.change(0, 1, 18);
        due("18 just on it", x.stoolFor(0), 60);
        x.change(0, 1, 17);
        due("18 never on it", x.stoolFor(0), 0);
        due("18 no such", x.stoolFor(7), BEYOND);
        due("18 nothing changes", x.booth(0), 20);
    }

    // Promise 19
    private static void lightForTells() {
        BoothFlash x = withOne(0);
        due("19", x.lightFor(0, 1), 2);
        due("19 nothing changes", x.booth(1), 5);
        due("19 no minute", x.lightFor(0, 0), NONE);
        due("19 60 minutes", x.lightFor(0, 60), 2);
        due("19 above", x.lightFor(0, 61), BEYOND);
        due("19 below", x.lightFor(0, -1), BEYOND);
        due("19 no such", x.lightFor(1, 1), BEYOND);
        x.change(0, 1, 0);
        due("19 too far off", x.lightFor(0, 1), NONE);
        x.change(0, 1, 60);
        x.change(0, 5, 999);
        due("19 it can't be more", x.lightFor(0, 60), NONE);
        BoothFlash y = new BoothFlash();
        y.sitter(0, 60);
        y.queue(5, 0);
        due("19 too early", y.lightFor(0, 5), NONE);
        due("19 its turn", y.lightFor(0, 6), 2);
    }

    // Promise 20
    private static void turnForTells() {
        BoothFlash x = new BoothFlash();
        x.sitter(0, 60);
        due("20 no minute: all alike", x.turnFor(0, 0), 0);
        due("20 all alike", x.turnFor(0, 60), 0);
        x.go(2);
        due("20 only in place 2", x.turnFor(0, 1), 2);
        due("20 in 2 or 3", x.turnFor(0, 2), 2);
        due("20 nothing changes", x.place(2), -1);
        x.queue(2, 0);
        due("20 there too", x.turnFor(0, 2), 3);
        x.sitter(0, 20);
        x.queue(3, 1);
        x.queue(2, -1);
        x.queue(4, 0);
        due("20 instead of one who turns the stool", x.turnFor(0, 3), 2);
        due("20 no such", x.turnFor(2, 3), BEYOND);
        due("20 above", x.turnFor(0, 61), BEYOND);
        due("20 below", x.turnFor(0, -1), BEYOND);
    }

    // Promise 21
    private static void kindForTells() {
        BoothFlash x = withOne(6);
        due("21 all alike", x.kindFor(0, 0), 0);
        due("21 all alike", x.kindFor(0, 1), 0);
        x.change(0, 1, 51);
        due("21 within 5", x.kindFor(0, 1), 1);
        x.change(0, 1, 47);
        due("21 within 10", x.kindFor(0, 1), 6);
        x.change(0, 1, 60);
        x.change(0, 3, 9);
        due("21 who smiles so much", x.kindFor(0, 1), 3);
        due("21 nothing changes", x.of(0, 0), 6);
        due("21 no such", x.kindFor(1, 1), BEYOND);
        due("21 above", x.kindFor(0, 61), BEYOND);
        due("21 below", x.kindFor(0, -1), BEYOND);
        due("21 60 minutes", x.kindFor(0, 60) >= 0 ? 1 : 0, 1);
    }

    // Promise 22
    private static void merryForTells() {
        BoothFlash x = withOne(0);
        due("22", x.merryFor(0, 1), 5);
        due("22 nothing changes", x.of(0, 3), 3);
        due("22 it gets less merry", x.merryFor(0, 2), 6);
        x.change(0, 0, 6);
        due("22 baby", x.merryFor(0, 1), 9);
        x.change(0, 0, 1);
        due("22 child", x.merryFor(0, 1), 4);
        due("22 no minute", x.merryFor(0, 0), NONE);
        x.set(1, 1);
        due("22 in the dark", x.merryFor(0, 60), NONE);
        due("22 no such", x.merryFor(1, 1), BEYOND);
        due("22 above", x.merryFor(0, 61), BEYOND);
        due("22 below", x.merryFor(0, -1), BEYOND);
    }

    // Promise 23
    private static void priceForTells() {
        BoothFlash x = new BoothFlash();
        due("23 nobody", x.priceFor(60), 0);
        x.sitter(0, 60);
        x.queue(0, 0);
        due("23 no minute", x.priceFor(0), 0);
        due("23 one minute", x.priceFor(1), 20);
        due("23 price doesn't change", x.booth(2), 5);
        x.change(0, 4, 7);
        due("23 what it has", x.priceFor(6), 7);
        due("23 twice 5 is more", x.priceFor(7), 5);
        x.set(3, 99995);
        due("23 till is full: the least", x.priceFor(1), 4);
        due("23 above", x.priceFor(61), BEYOND);
        due("23 below", x.priceFor(-1), BEYOND);
        BoothFlash y = withOne(0);
        due("23 all that it has, the least price", y.priceFor(5), 4);
    }

    // Promise 24
    private static void awayTells() {
        BoothFlash x = new BoothFlash();
        due("24 nobody", x.away(0, 0, 0), BEYOND);
        x.sitter(0, 60);
        x.sitter(0, 90);
        x.sitter(0, 90);
        x.queue(5, 0);
        due("24 nobody must", x.away(0, 1, 6), 0);
        due("24 too early", x.away(0, 1, 5), NONE);
        x.queue(3, 1);
        x.queue(4, 1);
        due("24 one who turns the stool", x.away(0, 1, 6), 2);
        x.queue(4, 2);
        x.queue(3, 2);
        due("24 another", x.away(0, 1, 6), 4);
        x.queue(3, 1);
        due("24 one of them is enough: the least", x.away(0, 1, 6), 2);
        x.queue(0, 1);
        x.queue(1, 2);
        x.queue(2, 2);
        due("24 both", x.away(0, 1, 6), 6);
        due("24 place is as it was", x.place(4), 2);
        due("24 now", x.away(0, 0, 6), 0);
        due("24 above v", x.away(0, 1000, 6), BEYOND);
        due("24 below v", x.away(0, -1, 6), BEYOND);
        due("24 above n", x.away(0, 1, 21), BEYOND);
        due("24 below n", x.away(0, 1, -1), BEYOND);
        due("24 no such", x.away(3, 1, 6), BEYOND);
        due("24 20 minutes", x.away(0, 999, 20), NONE);
        BoothFlash y = new BoothFlash();
        y.sitter(0, 90);
        y.sitter(0, 90);
        y.sitter(0, 60);
        y.queue(0, 1);
        y.queue(1, 0);
        y.queue(2, 2);
        y.set(0, 22);
        due("24 the stool is turned back", y.away(2, 1, 3), 0);
        y.set(0, 10);
        due("24 not even so", y.away(2, 1, 3), NONE);
        y.set(0, 14);
        due("24 both of them", y.away(2, 1, 3), 3);
        BoothFlash z = new BoothFlash();
        for (int s = 0; s < 3; s++) {
            z.sitter(0, 90);
        }
        z.sitter(1, 60);
        z.queue(1, 2);
        z.queue(2, 2);
        z.queue(3, 0);
        z.queue(4, 1);
        z.queue(5, 3);
        due("24 the fewest, though two others are a lesser number", z.away(3, 1, 6), 4);
    }

    // Promises 25 and 26
    private static void fitsAndTall() {
        BoothFlash x = new BoothFlash();
        due("25 no such sheet", x.fits(4, 0), BEYOND);
        due("25 no such sheet", x.fits(-1, 0), BEYOND);
        due("25 missing comes before the sitter", x.fits(0, 0), MISSING);
        due("26 missing comes before the sitter", x.tall(0, 0), MISSING);
        due("26 no such sheet", x.tall(4, 0), BEYOND);
        Check.fill(x, 0, 0, 0, 0, 6);
        due("25 no such sitter", x.fits(0, 0), BEYOND);
        due("26 no such sitter", x.tall(0, 0), BEYOND);
        x.sitter(0, 10);
        due("25", x.fits(0, 0), 5);
        due("26", x.tall(0, 0), 58);
        due("25 it stays", x.of(0, 1), 10);
        x.write(0, 0, 1);
        due("25 can't be both", x.fits(0, 0), 0);
        due("26 can't be both", x.tall(0, 0), NONE);
        Check.fill(x, 0, 1, 1, 1, 7);
        due("25 off", x.fits(0, 0), 86);
        due("26 off", x.tall(0, 0), 0);
        Check.fill(x, 0, -1, 0);
        due("25 any", x.fits(0, 0), 5);
        x.set(0, 0);
        due("25 stool 0", x.fits(0, 0), 5);
        due("26 stool 0", x.tall(0, 0), 78);
        x.set(0, 60);
        due("26 stool 60", x.tall(0, 0), 18);
        Check.fill(x, 1, -1, -1, -1, -1, 30, 31);
        due("25 beyond the first four", x.fits(1, 0), 91);
        due("26 beyond the first four", x.tall(1, 0), 0);
        Check.fill(x, 1, -1, -1, -1, 0);
        due("25 the fourth counts", x.fits(1, 0), 0);
        x.sheet(2, 8, 0);
        due("25 nothing is asked", x.fits(2, 0), 91);
        due("26 nothing is asked", x.tall(2, 0), 0);
        x.sheet(3, 8, 1);
        x.write(3, 0, 255);
        due("25 255 of 8 bits is -1", x.fits(3, 0), 91);
        x.sheet(3, 16, 1);
        x.write(3, 0, 255);
        due("25 255 of 16 bits isn't", x.fits(3, 0), 0);
    }

    // Promise 27
    private static void kindsTells() {
        BoothFlash x = new BoothFlash();
        due("27 no such sheet", x.kinds(4, 0), BEYOND);
        due("27 missing", x.kinds(0, 0), MISSING);
        x.sheet(0, 32, 0);
        due("27 no such sitter", x.kinds(0, 0), BEYOND);
        x.sitter(2, 60);
        x.queue(0, 0);
        due("27 nothing asked", x.kinds(0, 0), 127);
        Check.fill(x, 0, 0);
        due("27 now", x.kinds(0, 0), 127);
        Check.fill(x, 0, 1);
        due("27 not now", x.kinds(0, 0), 0);
        Check.fill(x, 0, 0, 1);
        due("27 a minute on", x.kinds(0, 0), 127);
        x.change(0, 3, 9);
        due("27 merry", x.kinds(0, 0), 8 + 16 + 32 + 64);
        Check.fill(x, 0, 0, 0);
        due("27 merry, not taken", x.kinds(0, 0), 1 + 2 + 4);
        Check.fill(x, 0, -1, -1);
        due("27 any", x.kinds(0, 0), 127);
        Check.fill(x, 0, -1, 1, 1, 1, 1, 1, 1, 2);
        x.set(1, 8);
        due("27 the second time, light 8", x.kinds(0, 0), 64);
        due("27 it stays", x.of(0, 0), 2);
        due("27 nothing goes by", x.now(0), 0);
    }

    // Promise 28
    private static void lampsGo() {
        BoothFlash x = new BoothFlash();
        int z = 1;
        int first = (z = z * 1103515245 + 12345) >>> 8;
        int second = (z = z * 1103515245 + 12345) >>> 8;
        due("28 nobody", x.lamps(1), 0);
        due("28 light", x.booth(1), first % 10);
        due("28 z", x.count(6), z);
        due("28 minute", x.now(0), 1);
        due("28 nobody is in the queue", x.place(0), -1);
        BoothFlash y = new BoothFlash();
        for (int s = 0; s < 8; s++) {
            y.sitter(0, 60);
        }
        y.go(2);
        due("28", y.lamps(1) >= 0 ? 1 : 0, 1);
        due("28 the next place", y.place(2), second % 8);
        due("28 its minute", y.of(second % 8, 6), 1);
        due("28 none", y.lamps(0), BEYOND);
        due("28 below", y.lamps(-1), BEYOND);
        due("28 above", y.lamps(21), BEYOND);
        due("28 z stays", y.count(6), z);
        y.lamps(20);
        due("28 twenty", y.now(0), 23);
        BoothFlash w = new BoothFlash();
        w.sitter(6, 60);
        w.queue(0, 0);
        w.seed(0);
        z = 12345;
        due("28 seed 0", w.lamps(1), (z >>> 8) % 10 < 2 ? 0 : 1);
        due("28 light", w.booth(1), 8);
        due("28 not there: who was stays", w.place(0), 0);
        BoothFlash v = new BoothFlash();
        v.seed(-1);
        v.lamps(1);
        z = -1 * 1103515245 + 12345;
        due("28 no sign", v.booth(1), (int) (((z & 0xffffffffL) >> 8) % 10));
    }

    // Promise 29
    private static void oddsTell() {
        BoothFlash x = new BoothFlash();
        due("29 nobody", x.odds(0, 0, 1, 0), BEYOND);
        x.sitter(0, 60);
        due("29 above", x.odds(0, 0, 1, 0), 4);
        due("29 below", x.odds(0, 0, 1, 1), 5);
        due("29 above", x.odds(0, 0, 2, 0), 16);
        due("29 below", x.odds(0, 0, 2, 1), 25);
        due("29 eighteen", x.odds(0, 0, 18, 0), 1L << 36);
        due("29 eighteen", x.odds(0, 0, 18, 1), 3814697265625L);
        due("29 never", x.odds(0, 3, 18, 0), 0);
        due("29 never", x.odds(0, 3, 18, 1), 1);
        due("29 no draw", x.odds(0, 3, 0, 0), 1);
        due("29 no draw", x.odds(0, 3, 0, 1), 1);
        x.sitter(2, 60);
        due("29 half", x.odds(1, 0, 5, 0), 1);
        due("29 half", x.odds(1, 0, 5, 1), 32);
        x.sitter(4, 60);
        due("29 old, eyes shut in the light", x.odds(2, 0, 1, 0), 1);
        due("29 old, eyes shut in the light", x.odds(2, 0, 1, 1), 5);
        x.sitter(1, 60);
        due("29 child: 3 of 5", x.odds(3, 0, 18, 0), 387420489L);
        due("29 child: 3 of 5", x.odds(3, 0, 18, 1), 3814697265625L);
        due("29 light stays", x.booth(1), 5);
        due("29 z stays", x.count(6), 1);
        due("29 above n", x.odds(0, 0, 19, 0), BEYOND);
        due("29 below n", x.odds(0, 0, -1, 0), BEYOND);
        due("29 no such flash", x.odds(0, 4, 1, 0), BEYOND);
        due("29 no such flash", x.odds(0, -1, 1, 0), BEYOND);
        due("29 no such part", x.odds(0, 0, 1, 2), BEYOND);
        due("29 no such part", x.odds(0, 0, 1, -1), BEYOND);
        due("29 no such sitter", x.odds(4, 0, 1, 0), BEYOND);
    }

    // Promise 30
    private static void seedTells() {
        BoothFlash x = new BoothFlash();
        due("30", x.seed(-1000001), 1);
        due("30", x.seed(LEAST_INT), -1000001);
        due("30", x.seed(GREATEST_INT), LEAST_INT);
        due("30", x.seed(0), GREATEST_INT);
        due("30 no findings", x.status(-1), 0);
        x.seed(-1000002);
        due("30 z", x.count(6), -1000002);
        due("30 no findings", x.status(-1), 0);
    }

    // Promises 31 and 32
    private static void feedAndWipe() {
        BoothFlash x = new BoothFlash();
        due("31", x.feed(0x6f6c643b, 4), 4);
        due("31 the lowest byte", x.feed(0x12345673, 1), 5);
        due("31 the lowest two", x.feed(0x12346879, 2), 7);
        due("33 old;shy", x.text(), 2);
        due("31", x.feed(0x7f74776f, 3), 3);
        due("33 two", x.text(), -1);
        due("31 no byte", x.feed(0, 0), BEYOND);
        due("31 below", x.feed(0, -1), BEYOND);
        due("31 above", x.feed(0, 5), BEYOND);
        for (int i = 1; i <= 29; i++) {
            due("31 more", x.feed(i, 4), 4 * i);
        }
        due("31 118", x.feed(0, 2), 118);
        due("31 full", x.feed(0, 3), FULL);
        due("31 nothing came", x.count(5), 118);
        due("31 120", x.feed(0, 2), 120);
        due("31 full", x.feed(0, 1), FULL);
        due("31 beyond is asked first", x.feed(0, 5), BEYOND);
        due("32", x.wipe(), 120);
        due("32 again", x.wipe(), 0);
        due("31 anew", x.feed(0, 1), 1);
        due("32", x.wipe(), 1);
        due("31 findings", x.status(1), 2);
    }

    // Promise 33, and more in TextTest
    private static void textTells() {
        BoothFlash x = new BoothFlash();
        due("33", Check.read(x, "sitter tall 61; queue 0; light 4"), 3);
        due("33 empty then", x.count(5), 0);
        due("33 so", x.of(0, 1), 61);
        due("33 so", x.place(0), 0);
        due("33 so", x.booth(1), 4);
        due("33 fault", Check.read(x, "light 3; dark"), -1 - 9);
        due("33 empty then, too", x.count(5), 0);
        due("33 nothing changes", x.booth(1), 4);
        due("33 no finding", x.status(-1), 0);
    }

    // Promises 34 and 35
    private static void holdAndAs() {
        BoothFlash x = new BoothFlash();
        due("34 nobody", x.hold(0, 0), BEYOND);
        due("34 nothing", x.hold(0, -1), 1);
        for (int kind = 0; kind <= 6; kind++) {
            x.sitter(kind, 60);
            due("34", x.hold(kind + 3, kind), 1);
        }
        int[] are = {1, 1 + 2, 1 + 4, 1 + 4 + 8, 1 + 4 + 8 + 16, 1 + 32, 1 + 2 + 64};
        for (int kind = 0; kind <= 6; kind++) {
            for (int wanted = 0; wanted <= 6; wanted++) {
                boolean is = (are[kind] >> wanted & 1) == 1;
                due("35 " + kind + " as " + wanted, x.as(kind + 3, wanted), is ? kind : KIND);
            }
        }
        due("35 spots", x.count(7), 7);
        due("35 nothing", x.as(0, 0), MISSING);
        due("35 beyond comes first", x.as(0, 7), BEYOND);
        due("35 no such kind", x.as(3, -1), BEYOND);
        due("35 no such spot", x.as(10, 0), BEYOND);
        due("35 no such spot", x.as(-1, 0), BEYOND);
        due("34 no such spot", x.hold(10, 0), BEYOND);
        due("34 no such spot", x.hold(-1, 0), BEYOND);
        due("34 no such sitter", x.hold(3, 7), BEYOND);
        due("34 no such sitter", x.hold(3, -2), BEYOND);
        due("35 as it was", x.as(3, 0), 0);
        x.change(0, 0, 4);
        due("35 it has become OLD", x.as(3, 2), 0);
        due("34 let go", x.hold(3, -1), 1);
        due("35 let go", x.as(3, 0), MISSING);
        due("35 spots", x.count(7), 6);
    }

    // Promises 36 and 37 (what is written is told by judge)
    private static void sheetAndWrite() {
        BoothFlash x = new BoothFlash();
        due("36", x.sheet(0, 8, 3), 3);
        due("36 none", x.sheet(1, 16, 0), 0);
        due("36 forty", x.sheet(3, 32, 40), 40);
        due("36 no such sheet", x.sheet(4, 8, 1), BEYOND);
        due("36 no such sheet", x.sheet(-1, 8, 1), BEYOND);
        due("36 other bits", x.sheet(0, 7, 1), BEYOND);
        due("36 other bits", x.sheet(0, 64, 1), BEYOND);
        due("36 other bits", x.sheet(0, -8, 1), BEYOND);
        due("36 bits come first", x.sheet(0, 9, -1), BEYOND);
        due("36 below", x.sheet(0, 8, -1), SIZE);
        due("36 below, missing", x.sheet(0, 0, -1), SIZE);
        due("36 above", x.sheet(0, 8, 41), BEYOND);
        due("36 above, missing", x.sheet(0, 0, 41), BEYOND);
        due("37 it stayed", x.write(0, 2, 1), 1);
        due("37 no such number", x.write(0, 3, 1), BEYOND);
        due("37 no such number", x.write(0, -1, 1), BEYOND);
        due("37 no number at all", x.write(1, 0, 1), BEYOND);
        due("37 missing", x.write(2, 0, 1), MISSING);
        due("37 missing comes first", x.write(2, -1, 1), MISSING);
        due("37 no such sheet", x.write(4, 0, 1), BEYOND);
        due("37 no such sheet", x.write(-1, 0, 1), BEYOND);
        due("37 the last", x.write(3, 39, 1), 1);
        due("37 behind it", x.write(3, 40, 1), BEYOND);
        due("36 missing", x.sheet(0, 0, 5), 0);
        due("36 is missing", x.write(0, 0, 1), MISSING);
        sheetsAreZeroAndCut();
    }

    private static void sheetsAreZeroAndCut() {
        BoothFlash x = new BoothFlash();
        x.sitter(0, 60);
        x.sheet(0, 8, 1);
        due("36 zero", x.judge(0), 0);
        x.write(0, 0, 7);
        due("37 becomes 7", x.judge(0), 1);
        x.sheet(0, 8, 1);
        due("36 zero again", x.judge(0), 0);
        int[] bits = {8, 16, 32};
        int[] least = {127, 32767, GREATEST_INT};
        for (int i = 0; i < 3; i++) {
            x.sheet(0, bits[i], 1);
            x.change(0, 5, 44);
            x.write(0, 0, 44 + 65536 * 3);
            due("37 the lowest bits", x.judge(0), i < 2 ? 0 : 1);
            x.write(0, 0, 44 + 256);
            due("37 the lowest bits", x.judge(0), i < 1 ? 0 : 1);
            x.change(0, 5, 127);
            x.write(0, 0, 127);
            due("37 127", x.judge(0), 0);
            x.change(0, 5, 128);
            x.write(0, 0, 128);
            due("37 128 is -128 of 8 bits", x.judge(0), i < 1 ? 1 : 0);
            x.queue(0, 0);
            x.write(0, 0, least[i] * 2 + 1);
            due("37 -1 of " + bits[i] + " bits", x.load(0), 1);
            due("37 -1: nobody", x.place(0), -1);
        }
    }

    // Promise 38
    private static void copyNumbers() {
        BoothFlash x = new BoothFlash();
        for (int s = 0; s < 8; s++) {
            x.sitter(0, 60);
            x.change(s, 5, s + 1);
        }
        due("38 no such sheet", x.copy(4, 0, 0, 0, 0), BEYOND);
        due("38 no such sheet", x.copy(0, 0, -1, 0, 0), BEYOND);
        due("38 missing", x.copy(0, 0, 0, 0, 0), MISSING);
        Check.fill(x, 0, 1, 2, 3, 4, 5, 6);
        due("38 one is missing", x.copy(0, 0, 1, 0, 1), MISSING);
        due("38 one is missing", x.copy(1, 0, 0, 0, 1), MISSING);
        due("38 no such sheet comes first", x.copy(1, 0, 4, 0, 1), BEYOND);
        x.sheet(1, 16, 6);
        due("38 other bits", x.copy(0, 0, 1, 0, 1), KIND);
        due("38 other bits come first", x.copy(0, -1, 1, 0, 99), KIND);
        x.sheet(1, 32, 4);
        due("38", x.copy(0, 0, 1, 0, 4), 4);
        due("38 they came", x.judge(1), 0);
        due("38 too many for the target", x.copy(0, 0, 1, 0, 5), BEYOND);
        due("38 too many for the target", x.copy(0, 0, 1, 1, 4), BEYOND);
        due("38 too many for the source", x.copy(1, 1, 0, 0, 4), BEYOND);
        due("38 from below", x.copy(0, -1, 1, 0, 1), BEYOND);
        due("38 to below", x.copy(0, 0, 1, -1, 1), BEYOND);
        due("38 n below", x.copy(0, 0, 1, 0, -1), BEYOND);
        due("38 n far above", x.copy(0, 1, 1, 1, GREATEST_INT), BEYOND);
        due("38 from far above", x.copy(0, GREATEST_INT, 1, 0, 1), BEYOND);
        due("38 none at the end", x.copy(0, 6, 1, 4, 0), 0);
        due("38 as it was", x.judge(1), 0);
        due("38 from 1 on", x.copy(0, 1, 1, 0, 2), 2);
        due("38 2, 3, 3, 4", x.judge(1), 1);
        x.write(1, 0, 1);
        due("38 3 in place 1", x.judge(1), 2);
        x.write(1, 1, 2);
        due("38 the rest stays", x.judge(1), 0);
        overlappingCopies(x);
    }

    private static void overlappingCopies(BoothFlash x) {
        Check.fill(x, 2, 2, 3, 4, 5, 6, 7, 0);
        due("38 up in itself", x.copy(2, 0, 2, 1, 6), 6);
        x.write(2, 0, 1);
        due("38 as they all were", x.judge(2), 0);
        Check.fill(x, 2, 0, 1, 2, 3, 4, 5, 6);
        due("38 down in itself", x.copy(2, 1, 2, 0, 6), 6);
        x.write(2, 6, 7);
        due("38 as they all were", x.judge(2), 0);
    }

    // Promise 39
    private static void loadQueue() {
        BoothFlash x = new BoothFlash();
        due("39 no such sheet", x.load(4), BEYOND);
        due("39 no such sheet", x.load(-1), BEYOND);
        due("39 missing", x.load(0), MISSING);
        x.sitter(0, 60);
        x.sitter(0, 60);
        x.queue(4, 0);
        Check.fill(x, 0, 1, -1, 0);
        due("39", x.load(0), 3);
        due("39 place 0", x.place(0), 1);
        due("39 place 1", x.place(1), -1);
        due("39 place 2", x.place(2), 0);
        due("39 others stay", x.place(4), 0);
        Check.fill(x, 0, 0, 1, 2, 1);
        due("39 no sitter", x.load(0), 2);
        due("39 it came till there", x.place(1), 1);
        due("39 and no further", x.place(3), -1);
        Check.fill(x, 0, -2, 1);
        due("39 no sitter", x.load(0), 0);
        Check.fill(x, 0, 1, 1, 1, 1, 1, 1, 0, 0);
        due("39 six places", x.load(0), 6);
        due("39 the last", x.place(5), 1);
        x.sheet(0, 8, 0);
        due("39 none", x.load(0), 0);
    }

    // Promise 40
    private static void judgeSheet() {
        BoothFlash x = new BoothFlash();
        due("40 no such sheet", x.judge(4), BEYOND);
        due("40 no such sheet", x.judge(-1), BEYOND);
        due("40 missing", x.judge(0), MISSING);
        x.sheet(0, 32, 0);
        due("40 nothing told", x.judge(0), 0);
        x.sheet(0, 32, 1);
        due("40 nobody", x.judge(0), 1);
        x.sitter(0, 60);
        x.sitter(0, 60);
        x.sitter(0, 60);
        x.change(1, 5, 8);
        Check.fill(x, 0, 0, 8, 0);
        due("40 so", x.judge(0), 0);
        Check.fill(x, 0, 0, 8);
        due("40 some of them", x.judge(0), 0);
        Check.fill(x, 0, 0, 7, 5);
        due("40 the first that isn't", x.judge(0), 2);
        Check.fill(x, 0, -1, 8, 0);
        due("40 -1 is no any", x.judge(0), 1);
        Check.fill(x, 0, 0, 8, 0, 0);
        due("40 there is no 4th", x.judge(0), 4);
    }

    // Promises 41, 42 and 43
    private static void imageUndoTear() {
        BoothFlash x = withOne(0);
        x.set(1, 4);
        x.set(2, 3);
        x.seed(77);
        x.hold(2, 0);
        x.go(2);
        due("42 nothing kept", x.undo(), NONE);
        due("41", x.image(), 1);
        x.go(1);
        x.set(0, 50);
        x.set(1, 1);
        x.set(2, 9);
        x.set(3, 900);
        x.sitter(4, 4);
        x.queue(0, 1);
        x.hold(2, -1);
        x.hold(3, 1);
        x.lamps(3);
        x.change(0, 0, 5);
        x.change(0, 1, 3);
        x.change(0, 6, 30);
        Check.fill(x, 0, 9);
        x.feed(0, 3);
        due("42", x.undo(), 2);
        int[] booth = {20, 4, 3, 6};
        for (int what = 0; what < 4; what++) {
            due("42 booth " + what, x.booth(what), booth[what]);
        }
        int[] sitter = {0, 60, 7, 3, 14, 2, 2};
        for (int what = 0; what <= 6; what++) {
            due("42 sitter " + what, x.of(0, what), sitter[what]);
        }
        due("42 sitters", x.count(1), 1);
        due("42 queue", x.place(0), 0);
        due("42 z", x.count(6), 77);
        due("42 spots", x.count(7), 1);
        due("42 spots", x.as(2, 0), 0);
        due("42 tape stays", x.count(5), 3);
        due("42 sheets stay", x.judge(0), 1);
        x.go(3);
        due("42 it stays", x.undo(), 2);
        x.go(4);
        due("41 another", x.image(), 1);
        x.go(1);
        due("42 the latest", x.undo(), 6);
        due("43", x.tear(), 1);
        due("43 again", x.tear(), 0);
        due("42 nothing kept", x.undo(), NONE);
        due("42 as it was", x.now(0), 6);
        due("41 anew", x.image(), 1);
        due("42 anew", x.undo(), 6);
    }

    // Promise 44
    private static void countTells() {
        BoothFlash x = withOne(0);
        x.set(3, 12);
        x.sitter(0, 60);
        x.change(1, 5, 4);
        x.change(1, 6, 6);
        x.go(2);
        x.feed(0, 3);
        x.seed(-5);
        x.hold(0, 0);
        x.hold(9, 1);
        int[] want = {2, 2, 6, 8, 22, 3, -5, 2};
        for (int what = 0; what <= 7; what++) {
            due("44 " + what, x.count(what), want[what]);
        }
        due("44 another", x.count(8), BEYOND);
        due("44 another", x.count(-1), BEYOND);
    }

    // Promise 45
    private static void statusTells() {
        BoothFlash x = new BoothFlash();
        x.image();
        x.booth(9);
        x.booth(9);
        for (int s = 0; s < 9; s++) {
            x.sitter(0, 60);
        }
        x.hold(0, 0);
        x.as(0, 1);
        x.as(0, 1);
        x.all();
        new BoothFlash().all();
        x.as(1, 0);
        x.sheet(0, 8, -1);
        int[] want = {2, 1, 2, 1, 0, 1, 1};
        for (int which = 0; which <= 6; which++) {
            due("45 " + which, x.status(which), want[which]);
        }
        due("45 all", x.status(-1), 8);
        due("45 another", x.status(7), BEYOND);
        due("45 counted from then on", x.status(0), 3);
        due("45 another", x.status(-2), BEYOND);
        due("45 all", x.status(-1), 10);
        x.undo();
        due("45 undo takes none back", x.status(-1), 10);
        due("45 state", x.all(), STATE);
        due("45 state", x.status(4), 1);
        x.odds(0, 0, 0, 0);
        due("45 in longs, too", x.status(0), 5);
    }
}
