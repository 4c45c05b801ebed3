/** Promises 25 to 27 and 29, what was refused and the odds: each boundary has its own test. */
public final class RefusedEdgesTest {
    private static final int BEYOND = -1000001;
    private static final int NONE = -1000004;
    private static final int MISSING = -1000006;

    private static final Check CHECK = new Check("RefusedEdgesTest");
    private static final Edge EDGE = new Edge(CHECK);

    public static void main(String[] args) {
        noSuchSheet();
        missingBeforeSitter();
        noSuchSitter();
        nothingChanges();
        fitsSheetOfNone();
        fitsSheetOfForty();
        fitsFirstFourAlone();
        fitsFewerThanFour();
        fitsAny();
        fitsMinusOneByBits();
        fitsTallAtTheEnds();
        fitsStoolAsItIs();
        fitsNever();
        kindsSheetOfNone();
        kindsSheetOfForty();
        kindsFromNowOn();
        kindsLastNumber();
        kindsAny();
        kindsTakenAtMost();
        kindsAllAndNone();
        oddsBounds();
        oddsNever();
        oddsByNoDraw();
        oddsLowestTerms();
        oddsInLongs();
        oddsAllElseAsNow();
        CHECK.end();
    }

    private static void due(String call, long got, long want) {
        CHECK.due(call, got, want);
    }

    private static BoothFlash one(int kind, int tall) {
        BoothFlash x = new BoothFlash();
        x.sitter(kind, tall);
        for (int p = 0; p < 6; p++) {
            x.queue(p, 0);
        }
        return x;
    }

    // BEYOND: no such sheet (before anything else)
    private static void noSuchSheet() {
        int[] sheets = {-1, 4, Edge.LEAST, Edge.GREATEST};
        int[] sitters = {0, -1, 8};
        for (int s : sheets) {
            for (int who : sitters) {
                EDGE.refused("25 sheet " + s, Edge::three, BEYOND, x -> x.fits(s, who));
                EDGE.refused("26 sheet " + s, Edge::three, BEYOND, x -> x.tall(s, who));
                EDGE.refused("27 sheet " + s, Edge::three, BEYOND, x -> x.kinds(s, who));
            }
        }
    }

    // MISSING. BEYOND: no such SITTER.
    private static void missingBeforeSitter() {
        int[] sitters = {0, 2, 3, -1, Edge.LEAST, Edge.GREATEST};
        for (int who : sitters) {
            EDGE.refused("25 MISSING, sitter " + who, Edge::three, MISSING, x -> x.fits(3, who));
            EDGE.refused("26 MISSING, sitter " + who, Edge::three, MISSING, x -> x.tall(3, who));
            EDGE.refused("27 MISSING, sitter " + who, Edge::three, MISSING, x -> x.kinds(3, who));
            EDGE.refused("25 MISSING without SITTERS", Edge::none, MISSING, x -> x.fits(3, who));
        }
    }

    private static void noSuchSitter() {
        for (int sheet = 0; sheet < 3; sheet++) {
            int s = sheet;
            EDGE.within("25 sitter, sheet " + s, Edge::three, 0, 2, (x, who) -> x.fits(s, who));
            EDGE.within("26 sitter, sheet " + s, Edge::three, 0, 2, (x, who) -> x.tall(s, who));
            EDGE.within("27 sitter, sheet " + s, Edge::three, 0, 2, (x, who) -> x.kinds(s, who));
            EDGE.within("25 sitter of eight, sheet " + s, Edge::eight, 0, 7, (x, who) -> x.fits(s, who));
            EDGE.within("27 sitter of eight, sheet " + s, Edge::eight, 0, 7, (x, who) -> x.kinds(s, who));
        }
        EDGE.refused("25 nobody there", Edge::none, BEYOND, x -> x.fits(0, 0));
        EDGE.refused("26 nobody there", Edge::none, BEYOND, x -> x.tall(0, 0));
        EDGE.refused("27 nobody there", Edge::none, BEYOND, x -> x.kinds(0, 0));
    }

    private static void nothingChanges() {
        for (int sheet = 0; sheet < 3; sheet++) {
            int s = sheet;
            EDGE.asked("25 sheet " + s, Edge::three, Edge.three().fits(s, 1), x -> x.fits(s, 1));
            EDGE.asked("27 sheet " + s, Edge::three, Edge.three().kinds(s, 1), x -> x.kinds(s, 1));
        }
        Edge.Maker any = () -> {
            BoothFlash x = Edge.three();
            x.sheet(3, 8, 0);
            return x;
        };
        EDGE.asked("26", any, 0, x -> x.tall(3, 2));
        EDGE.asked("29", Edge::three, Edge.three().odds(0, 1, 18, 0), x -> x.odds(0, 1, 18, 0));
    }

    // A sheet of no numbers asks nothing
    private static void fitsSheetOfNone() {
        int[] bits = {8, 16, 32};
        for (int b : bits) {
            BoothFlash x = one(0, 60);
            x.sheet(0, b, 0);
            due("25 no numbers of " + b + " bits", x.fits(0, 0), 91);
            due("26 no numbers of " + b + " bits", x.tall(0, 0), 0);
        }
    }

    private static void fitsSheetOfForty() {
        BoothFlash x = one(0, 60);
        x.sheet(0, 16, 40);
        x.change(0, 3, 2);
        x.change(0, 2, 4);
        x.write(0, 0, 2);
        due("25 forty numbers", x.fits(0, 0), 5);
        x.write(0, 39, 31);
        due("25 the last is not asked", x.fits(0, 0), 5);
        due("26 the last is not asked", x.tall(0, 0), 58);
        x.sheet(0, 32, 40);
        due("25 forty noughts", x.fits(0, 0), 0);
        due("26 forty noughts", x.tall(0, 0), NONE);
    }

    // Promise 25: beyond the first four nothing is asked
    private static void fitsFirstFourAlone() {
        BoothFlash x = one(0, 60);
        Check.fill(x, 0, 0, 0, 0, 6, 1, 77, -5);
        due("25 the 5th is not asked", x.fits(0, 0), 5);
        for (int i = 0; i < 4; i++) {
            Check.fill(x, 0, 0, 0, 0, 6);
            x.write(0, i, 9);
            due("25 number " + i + " is asked", x.fits(0, 0), 0);
            due("26 number " + i + " is asked", x.tall(0, 0), NONE);
        }
    }

    // Promise 25: of its FLASHES 0, 1, .. (up to 3)
    private static void fitsFewerThanFour() {
        BoothFlash x = one(0, 60);
        Check.fill(x, 0, 0);
        due("25 one number", x.fits(0, 0), 5);
        Check.fill(x, 0, 0, 0, 0);
        due("25 three numbers", x.fits(0, 0), 5);
        Check.fill(x, 0, 0, 0, 0, 0);
        due("25 four numbers: FLASH 3 is SHUT", x.fits(0, 0), 0);
        Check.fill(x, 0, 1, 1, 1, 7);
        due("25 four numbers, OFF", x.fits(0, 0), 86);
    }

    // Promise 25: (-1: any)
    private static void fitsAny() {
        BoothFlash x = one(0, 60);
        Check.fill(x, 0, -1, -1, -1, -1);
        due("25 any", x.fits(0, 0), 91);
        due("26 any", x.tall(0, 0), 0);
        for (int i = 0; i < 4; i++) {
            Check.fill(x, 0, -1, -1, -1, -1);
            x.write(0, i, i == 3 ? 6 : 0);
            due("25 any but " + i, x.fits(0, 0), 5);
        }
        Check.fill(x, 0, -2);
        due("25 -2 is none", x.fits(0, 0), 0);
        Check.fill(x, 0, 32);
        due("25 32 is none", x.fits(0, 0), 0);
    }

    // Terms 3: of 8 bits 255 is -1
    private static void fitsMinusOneByBits() {
        int[] bits = {8, 16, 32};
        for (int b : bits) {
            BoothFlash x = one(0, 60);
            x.sheet(0, b, 1);
            x.write(0, 0, 255);
            due("25 255 of " + b + " bits", x.fits(0, 0), b == 8 ? 91 : 0);
            x.write(0, 0, 65535);
            due("25 65535 of " + b + " bits", x.fits(0, 0), b <= 16 ? 91 : 0);
            x.write(0, 0, -1);
            due("25 -1 of " + b + " bits", x.fits(0, 0), 91);
            x.write(0, 0, 256);
            due("25 256 of " + b + " bits", x.fits(0, 0), b == 8 ? 5 : 0);
            x.write(0, 0, 65536);
            due("25 65536 of " + b + " bits", x.fits(0, 0), b <= 16 ? 5 : 0);
        }
    }

    // Promise 25: numbers (0 to 90)
    private static void fitsTallAtTheEnds() {
        int[][] cases = {
            // KIND, STOOL, how many, the least
            {0, 0, 5, 78}, {0, 60, 5, 18}, {6, 0, 21, 70}, {6, 1, 21, 69}, {6, 60, 21, 10}, {1, 0, 11, 75}
        };
        for (int[] c : cases) {
            BoothFlash x = one(c[0], 60);
            x.set(0, c[1]);
            Check.fill(x, 0, -1, 0);
            due("25 KIND " + c[0] + ", STOOL " + c[1], x.fits(0, 0), c[2]);
            due("26 KIND " + c[0] + ", STOOL " + c[1], x.tall(0, 0), c[3]);
            Check.fill(x, 0, -1, 1);
            due("25 OFF, KIND " + c[0] + ", STOOL " + c[1], x.fits(0, 0), 91 - c[2]);
            due("26 OFF, KIND " + c[0] + ", STOOL " + c[1], x.tall(0, 0), 0);
        }
        BoothFlash y = one(6, 60);
        y.set(0, 0);
        Check.fill(y, 0, -1, 0);
        due("25 TALL 90 is one of them", y.fits(0, 0), 21);
        y.change(0, 1, 90);
        due("9 TALL 90 itself", y.faults(0, 1), 0);
    }

    // Promise 25: STOOL as it is
    private static void fitsStoolAsItIs() {
        for (int stool = 0; stool <= 60; stool += 15) {
            BoothFlash x = one(0, 3);
            x.set(0, stool);
            Check.fill(x, 0, 0);
            due("26 STOOL " + stool, x.tall(0, 0), 78 - stool);
            due("26 STOOL stays", x.booth(0), stool);
            due("26 TALL stays", x.of(0, 1), 3);
        }
    }

    // Promise 26: NONE
    private static void fitsNever() {
        Edge.Maker never = () -> {
            BoothFlash x = Edge.three();
            x.sheet(3, 32, 2);
            x.write(3, 0, 1);
            return x;
        };
        EDGE.refused("26 NONE", never, NONE, x -> x.tall(3, 0));
        EDGE.asked("25 none is no finding", never, 0, x -> x.fits(3, 0));
    }

    // Promise 27: a sheet of no numbers asks nothing
    private static void kindsSheetOfNone() {
        BoothFlash x = one(3, 60);
        x.sheet(0, 32, 0);
        due("27 no numbers", x.kinds(0, 0), 127);
    }

    private static void kindsSheetOfForty() {
        BoothFlash x = new BoothFlash();
        x.sitter(6, 60);
        x.queue(3, 0);
        x.set(2, 0);
        x.set(1, 3);
        x.change(0, 3, 0);
        int taken = 0;
        x.sheet(0, 8, 40);
        for (int i = 0; i < 40; i++) {
            taken += i > 0 && (i - 1) % 6 == 3 ? 1 : 0;
            x.write(0, i, taken);
        }
        due("27 forty numbers", x.kinds(0, 0), 127);
        x.write(0, 39, 5);
        due("27 the last is asked", x.kinds(0, 0), 0);
        x.write(0, 39, 255);
        due("27 the last is any", x.kinds(0, 0), 127);
    }

    // Promise 27: TAKEN now and behind each MINUTE further on
    private static void kindsFromNowOn() {
        BoothFlash x = one(0, 60);
        x.change(0, 5, 4);
        Check.fill(x, 0, 4);
        due("27 now", x.kinds(0, 0), 127);
        Check.fill(x, 0, 5);
        due("27 not now", x.kinds(0, 0), 0);
        Check.fill(x, 0, 4, 5);
        due("27 a MINUTE on", x.kinds(0, 0), 127);
        Check.fill(x, 0, 4, 4);
        due("27 not a MINUTE on", x.kinds(0, 0), 0);
        x.change(0, 1, 53);
        due("27 OFF a MINUTE on", x.kinds(0, 0), 1 + 4 + 8 + 16 + 32);
        Check.fill(x, 0, 4, 5);
        due("27 within 5", x.kinds(0, 0), 2 + 64);
    }

    private static void kindsLastNumber() {
        BoothFlash x = one(0, 60);
        x.set(1, 3);
        x.change(0, 3, 0);
        Check.fill(x, 0, 0, 1, 2, 3);
        due("27 all", x.kinds(0, 0), 127);
        x.write(0, 3, 2);
        due("27 the last isn't so", x.kinds(0, 0), 0);
    }

    private static void kindsAny() {
        BoothFlash x = one(0, 60);
        Check.fill(x, 0, -1, -1, -1, -1, -1);
        due("27 any", x.kinds(0, 0), 127);
        x.change(0, 3, 9);
        x.set(1, 8);
        Check.fill(x, 0, -1, 1);
        due("27 at FLASH 0 alone, or BABY", x.kinds(0, 0), 32 + 64);
    }

    private static void kindsTakenAtMost() {
        BoothFlash x = one(4, 60);
        x.change(0, 5, 998);
        Check.fill(x, 0, 998, 999, 999, 999);
        due("27 TAKEN 999 at most", x.kinds(0, 0), 127);
        x.write(0, 2, 1000);
        due("27 never 1000", x.kinds(0, 0), 0);
    }

    private static void kindsAllAndNone() {
        for (int kind = 0; kind <= 6; kind++) {
            BoothFlash x = one(kind, 47);
            Check.fill(x, 0, 0, 1);
            due("27 BABY alone, KIND " + kind, x.kinds(0, 0), 64);
            Check.fill(x, 0, 0, 0);
            due("27 all but BABY, KIND " + kind, x.kinds(0, 0), 63);
            due("27 KIND stays", x.of(0, 0), kind);
        }
    }

    // Promise 29: n (0 to 18), f (0 to 3), what 0, 1. BEYOND.
    private static void oddsBounds() {
        EDGE.within("29 n", Edge::three, 0, 18, (x, n) -> x.odds(0, 0, n, 1));
        EDGE.within("29 f", Edge::three, 0, 3, (x, f) -> x.odds(0, f, 1, 0));
        EDGE.within("29 what", Edge::three, 0, 1, (x, what) -> x.odds(0, 0, 1, what));
        EDGE.within("29 sitter of three", Edge::three, 0, 2, (x, s) -> x.odds(s, 0, 1, 0));
        EDGE.within("29 sitter of eight", Edge::eight, 0, 7, (x, s) -> x.odds(s, 0, 1, 0));
        EDGE.refused("29 nobody there", Edge::none, BEYOND, x -> x.odds(0, 0, 0, 0));
    }

    private static void oddsNever() {
        BoothFlash x = one(0, 0);
        for (int n = 1; n <= 18; n++) {
            due("29 never: above, n " + n, x.odds(0, 0, n, 0), 0);
            due("29 never: below, n " + n, x.odds(0, 0, n, 1), 1);
        }
    }

    private static void oddsByNoDraw() {
        int[] tall = {0, 60};
        for (int t : tall) {
            for (int f = 0; f < 4; f++) {
                due("29 no draw: above", one(0, t).odds(0, f, 0, 0), 1);
                due("29 no draw: below", one(0, t).odds(0, f, 0, 1), 1);
            }
        }
        BoothFlash dark = one(0, 60);
        dark.set(1, 0);
        due("29 no draw in the dark", dark.odds(0, 0, 0, 0), 1);
    }

    // Promise 29: a fraction in lowest terms
    private static void oddsLowestTerms() {
        // How many of the ten LIGHTS are good at FLASH 0, for each KIND, STILL 5, MINUTE 0 and 1.
        int[] good = {8, 6, 5, 0, 2, 8, 0};
        int[] above = {4, 3, 1, 0, 1, 4, 0};
        int[] below = {5, 5, 2, 1, 5, 5, 1};
        for (int kind = 0; kind <= 6; kind++) {
            BoothFlash x = one(kind, 60);
            due("29 above, " + good[kind] + " of 10", x.odds(0, 0, 1, 0), above[kind]);
            due("29 below, " + good[kind] + " of 10", x.odds(0, 0, 1, 1), below[kind]);
        }
        BoothFlash old = one(4, 60);
        due("29 OLD at FLASH 1: LIGHTS 2 to 5", old.odds(0, 1, 1, 0), 2);
        due("29 OLD at FLASH 1: LIGHTS 2 to 5", old.odds(0, 1, 1, 1), 5);
        BoothFlash baby = one(6, 60);
        due("29 BABY at FLASH 1: LIGHTS 2 to 9", baby.odds(0, 1, 2, 0), 16);
        due("29 BABY at FLASH 1: LIGHTS 2 to 9", baby.odds(0, 1, 2, 1), 25);
    }

    private static void oddsInLongs() {
        BoothFlash x = one(0, 60);
        due("29 4 to the 18th", x.odds(0, 0, 18, 0), 68719476736L);
        due("29 5 to the 18th", x.odds(0, 0, 18, 1), 3814697265625L);
        BoothFlash y = one(2, 60);
        due("29 1 to the 18th", y.odds(0, 0, 18, 0), 1L);
        due("29 2 to the 18th", y.odds(0, 0, 18, 1), 262144L);
        BoothFlash z = one(1, 60);
        due("29 3 to the 18th", z.odds(0, 0, 18, 0), 387420489L);
        due("29 BEYOND in longs, too", z.odds(0, 0, 19, 0), -1000001L);
    }

    // Promise 29: all else as it is now
    private static void oddsAllElseAsNow() {
        BoothFlash x = one(0, 57);
        due("29 OFF as STOOL is", x.odds(0, 0, 1, 0), 0);
        x.set(0, 21);
        due("29 on the line", x.odds(0, 0, 1, 0), 4);
        x.set(1, 0);
        due("29 the LIGHT now doesn't matter", x.odds(0, 0, 1, 0), 4);
        x.seed(12345);
        due("29 nor does z", x.odds(0, 0, 1, 0), 4);
        due("29 z stays", x.count(6), 12345);
        due("29 LIGHT stays", x.booth(1), 0);
        x.change(0, 2, 4);
        due("29 SHUT", x.odds(0, 0, 1, 0), 0);
    }
}
