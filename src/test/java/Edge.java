/** Booths in which everything is in use, and the question whether a call left one of them as it was. */
final class Edge {
    interface Maker {
        BoothFlash make();
    }

    interface Call {
        long on(BoothFlash x);
    }

    interface IntCall {
        long on(BoothFlash x, int v);
    }

    static final int LEAST = Integer.MIN_VALUE;
    static final int GREATEST = Integer.MAX_VALUE;

    /* What the SHEETS 0 to 2 of every booth here hold, of 8, 16 and 32 bits; SHEET 3 is MISSING. */
    private static final int[][] NUMBERS = {{2, 0, -1, 1}, {0, 0, 7}, {1, 2, -1, 0, 4, 5, 6, 7}};
    private static final int[] PROBED = {-1, 0, 2, 3, 4, 7, 8};

    private final Check check;

    Edge(Check check) {
        this.check = check;
    }

    static BoothFlash none() {
        return furnished(0);
    }

    static BoothFlash three() {
        return furnished(3);
    }

    static BoothFlash eight() {
        return furnished(8);
    }

    private static BoothFlash furnished(int sitters) {
        BoothFlash x = new BoothFlash();
        int[] kinds = {0, 4, 6, 1, 2, 3, 5, 0};
        for (int s = 0; s < sitters; s++) {
            x.sitter(kinds[s], 57 + s);
            x.change(s, 2, s + 1);
            x.change(s, 4, 30 + s);
            x.change(s, 6, s);
        }
        for (int p = 0; p < 5 && sitters > 0; p++) {
            x.queue(p, p % sitters);
        }
        x.set(0, 22);
        x.set(1, 4);
        x.set(2, 3);
        x.set(3, 40);
        x.seed(99);
        x.hold(0, sitters - 1);
        x.go(2);
        x.image();
        x.set(0, 30);
        x.hold(9, sitters > 0 ? 0 : -1);
        x.go(1);
        for (int s = 0; s < 3; s++) {
            x.sheet(s, 8 << s, NUMBERS[s].length);
            for (int i = 0; i < NUMBERS[s].length; i++) {
                x.write(s, i, NUMBERS[s][i]);
            }
        }
        Check.feed(x, "price 7;light 3");
        return x;
    }

    private static int tellBooth(BoothFlash x, long[] told, int from) {
        int at = from;
        for (int what = 0; what < 4; what++) {
            told[at++] = x.booth(what);
        }
        for (int p = 0; p < 6; p++) {
            told[at++] = x.place(p);
        }
        for (int what = 0; what < 8; what++) {
            told[at++] = x.count(what);
        }
        for (int s = 0; s < 8; s++) {
            for (int what = 0; what < 7; what++) {
                told[at++] = x.of(s, what);
            }
        }
        for (int spot = 0; spot < 10; spot++) {
            told[at++] = x.as(spot, 0);
        }
        return at;
    }

    private static int tellSheet(BoothFlash x, int s, long[] told, int from) {
        int at = from;
        told[at++] = x.load(s);
        for (int p = 0; p < 6; p++) {
            told[at++] = x.place(p);
        }
        for (int i = 0; s < 3 && i < NUMBERS[s].length; i++) {
            x.change(i, 5, NUMBERS[s][i]);
        }
        told[at++] = x.judge(s);
        for (int i : PROBED) {
            told[at++] = x.write(s, i, 0);
        }
        x.change(0, 5, 5);
        x.write(s, 0, 256 + 5);
        told[at++] = x.judge(s);
        x.write(s, 0, 65536 + 5);
        told[at++] = x.judge(s);
        return at;
    }

    /** All that can be asked of a booth but status(); nothing is left as it was. */
    static long[] tell(BoothFlash x) {
        long[] told = new long[300];
        int at = tellBooth(x, told, 0);
        for (int s = 0; s < 4; s++) {
            at = tellSheet(x, s, told, at);
        }
        told[at++] = x.text();
        told[at++] = x.booth(1);
        told[at++] = x.booth(2);
        told[at++] = x.undo();
        at = tellBooth(x, told, at);
        told[at] = x.tear();
        return told;
    }

    static int[] statuses(BoothFlash x) {
        int[] told = new int[8];
        for (int which = -1; which <= 6; which++) {
            told[which + 1] = x.status(which);
        }
        return told;
    }

    private void isAsMade(String label, BoothFlash x, Maker maker) {
        long[] is = tell(x);
        long[] was = tell(maker.make());
        for (int i = 0; i < is.length; i++) {
            if (is[i] != was[i]) {
                check.due(label + ": changed, told " + i, is[i], was[i]);
            }
        }
        check.isTrue(label + ": changes nothing", java.util.Arrays.equals(is, was));
    }

    /** A call answers a finding, which is counted once, and changes nothing else. */
    void refused(String label, Maker maker, int finding, Call call) {
        BoothFlash x = maker.make();
        int[] before = statuses(x);
        check.due(label, call.on(x), finding);
        int[] after = statuses(x);
        for (int which = -1; which <= 6; which++) {
            boolean counts = which == -1 || which == -1000001 - finding;
            check.due(label + ": status " + which, after[which + 1] - before[which + 1], counts ? 1 : 0);
        }
        isAsMade(label, x, maker);
    }

    /** A call that only asks: it answers so, is no finding and changes nothing. */
    void asked(String label, Maker maker, long answer, Call call) {
        BoothFlash x = maker.make();
        int before = x.status(-1);
        check.due(label, call.on(x), answer);
        check.due(label + ": no finding", x.status(-1), before);
        isAsMade(label, x, maker);
    }

    /** Below and above what is allowed a call is BEYOND; with the least and the greatest it isn't. */
    void within(String label, Maker maker, int least, int most, IntCall call) {
        int[] in = {least, most};
        for (int v : in) {
            BoothFlash x = maker.make();
            int before = x.status(0);
            check.isTrue(label + " " + v + " is allowed", call.on(x, v) != Check.BEYOND);
            check.due(label + " " + v + ": not counted", x.status(0), before);
        }
        int[] out = {least - 1, most + 1, LEAST, GREATEST};
        for (int v : out) {
            refused(label + " " + v, maker, Check.BEYOND, x -> call.on(x, v));
        }
    }
}
