/** Promises 1 to 10 and the terms they rest on: each sentence that names a boundary has its own test. */
public final class BoothEdgesTest {
    private static final int BEYOND = -1000001;
    private static final int[] KINDS = {0, 1, 2, 3, 4, 5, 6};

    private static final Check CHECK = new Check("BoothEdgesTest");
    private static final Edge EDGE = new Edge(CHECK);

    public static void main(String[] args) {
        boothAtFirst();
        boothGreatestAndLeast();
        boothOutside();
        boothOtherWhat();
        queueHasSixPlaces();
        queueHoldsSittersOrNobody();
        queueTwice();
        sittersAtMostEight();
        sitterKindsAndTall();
        sitterAtFirst();
        sitterBeyondBeforeFull();
        traitsGreatestAndLeast();
        traitsOutside();
        ofHasNineWhats();
        changeHasSevenWhats();
        offAtTheEnds();
        mayOfEachKind();
        quotientsAreCut();
        offByMoreThanMay();
        shutOfSitters();
        shutOfSittersByMinute();
        shutOfChild();
        shutOfBaby();
        shutOfShy();
        shutOfOld();
        smilesOfSitter();
        smilesOfChild();
        smilesNever();
        smilesOfTwin();
        shinesAbove();
        lightBelowTwo();
        eachFaultAlone();
        allFaultsAtOnce();
        faultsHasFourFlashes();
        bestIsTheLeastOfSeveral();
        bestHasFewestNotLeast();
        nobodyThere();
        CHECK.end();
    }

    private static void due(String call, long got, long want) {
        CHECK.due(call, got, want);
    }

    private static BoothFlash one(int kind, int tall) {
        BoothFlash x = new BoothFlash();
        x.sitter(kind, tall);
        return x;
    }

    /** One fault's bit at FLASHES 0 to 3, as a word of noughts and ones. */
    private static long bits(BoothFlash x, int s, int fault) {
        long word = 0;
        for (int f = 0; f < 4; f++) {
            word = word * 10 + ((x.faults(s, f) & fault) == 0 ? 0 : 1);
        }
        return word;
    }

    // Terms 1: STOOL (.. 20 at first), LIGHT (.. 5 ..), PRICE (.. 5 ..), TILL (.. 0 ..); nobody (at first)
    private static void boothAtFirst() {
        BoothFlash x = new BoothFlash();
        int[] first = {20, 5, 5, 0};
        for (int what = 0; what < 4; what++) {
            due("1 booth at first " + what, x.booth(what), first[what]);
        }
        for (int p = 0; p < 6; p++) {
            due("1 nobody at first " + p, x.place(p), -1);
        }
        due("1 no SITTERS", x.count(1), 0);
        due("1 THE TAPE is empty", x.count(5), 0);
        due("1 z is 1 at first", x.count(6), 1);
        due("1 SPOTS hold nothing", x.count(7), 0);
        due("1 no image", x.undo(), -1000004);
        for (int s = 0; s < 4; s++) {
            due("1 SHEETS are MISSING", x.judge(s), -1000006);
        }
    }

    // Terms 1: STOOL (0 to 60), LIGHT (0 to 9), PRICE (0 to 20), TILL (0 to 99999)
    private static void boothGreatestAndLeast() {
        int[] first = {20, 5, 5, 0};
        int[] most = {60, 9, 20, 99999};
        for (int what = 0; what < 4; what++) {
            BoothFlash x = new BoothFlash();
            due("2 the greatest of " + what, x.set(what, most[what]), first[what]);
            due("3 the greatest of " + what, x.booth(what), most[what]);
            due("2 the least of " + what, x.set(what, 0), most[what]);
            due("3 the least of " + what, x.booth(what), 0);
            due("2 to itself " + what, x.set(what, 0), 0);
        }
    }

    // Promise 2: BEYOND
    private static void boothOutside() {
        int[] most = {60, 9, 20, 99999};
        for (int what = 0; what < 4; what++) {
            int w = what;
            EDGE.within("2 set " + what, Edge::three, 0, most[what], (x, v) -> x.set(w, v));
        }
    }

    private static void boothOtherWhat() {
        EDGE.within("2 what", Edge::three, 0, 3, (x, what) -> x.set(what, 0));
        EDGE.within("3 what", Edge::three, 0, 3, BoothFlash::booth);
        EDGE.asked("3 asks", Edge::three, 4, x -> x.booth(1));
    }

    // Terms 1: THE QUEUE: six places
    private static void queueHasSixPlaces() {
        EDGE.within("4 place", Edge::three, 0, 5, (x, p) -> x.queue(p, 0));
        EDGE.within("4 place of nobody", Edge::none, 0, 5, (x, p) -> x.queue(p, -1));
        EDGE.within("5 place", Edge::three, 0, 5, BoothFlash::place);
        BoothFlash x = Edge.eight();
        for (int p = 0; p < 6; p++) {
            x.queue(p, 7 - p);
        }
        for (int p = 0; p < 6; p++) {
            due("5 each its own " + p, x.place(p), 7 - p);
        }
    }

    // Terms 1: each with a SITTER or -1: nobody
    private static void queueHoldsSittersOrNobody() {
        EDGE.within("4 sitter of none", Edge::none, -1, -1, (x, s) -> x.queue(0, s));
        EDGE.within("4 sitter of three", Edge::three, -1, 2, (x, s) -> x.queue(5, s));
        EDGE.within("4 sitter of eight", Edge::eight, -1, 7, (x, s) -> x.queue(0, s));
        BoothFlash x = Edge.three();
        due("4 who was: nobody", x.queue(5, 2), -1);
        due("4 who was", x.queue(5, 0), 2);
        due("4 who was: 0", x.queue(5, -1), 0);
        due("4 nobody again", x.queue(5, -1), -1);
    }

    private static void queueTwice() {
        BoothFlash x = one(0, 60);
        for (int p = 0; p < 6; p++) {
            due("4 one in every place", x.queue(p, 0), -1);
        }
        due("4 out of one", x.queue(3, -1), 0);
        due("4 not out of the others", x.place(2), 0);
        due("4 not out of the others", x.place(4), 0);
    }

    // Terms 1: SITTERS 0, 1, .. (at most 8)
    private static void sittersAtMostEight() {
        BoothFlash x = new BoothFlash();
        for (int s = 0; s < 8; s++) {
            due("6 the number " + s, x.sitter(6, 90), s);
        }
        due("6 the 9th", x.sitter(6, 90), -1000002);
        due("6 eight", x.count(1), 8);
        EDGE.refused("6 FULL", Edge::eight, -1000002, y -> y.sitter(0, 60));
        EDGE.refused("6 FULL with the least", Edge::eight, -1000002, y -> y.sitter(0, 0));
        EDGE.refused("6 FULL with the greatest", Edge::eight, -1000002, y -> y.sitter(6, 90));
    }

    // Terms 1: KINDS 0 to 6; TALL (0 to 90)
    private static void sitterKindsAndTall() {
        EDGE.within("6 kind", Edge::three, 0, 6, (x, kind) -> x.sitter(kind, 60));
        EDGE.within("6 tall", Edge::three, 0, 90, (x, tall) -> x.sitter(0, tall));
        due("6 so TALL", one(0, 0).of(0, 1), 0);
        due("6 so TALL", one(0, 90).of(0, 1), 90);
        due("6 of the last KIND", one(6, 1).of(0, 0), 6);
    }

    // Terms 1: STILL (5 at first), MERRY (3 ..), COINS (20 ..), TAKEN (0 ..), TRIED (0 ..)
    private static void sitterAtFirst() {
        int[] first = {5, 3, 20, 0, 0};
        for (int kind : KINDS) {
            BoothFlash x = one(kind, 33);
            for (int what = 2; what <= 6; what++) {
                due("6 at first " + kind + " " + what, x.of(0, what), first[what - 2]);
            }
        }
        BoothFlash y = new BoothFlash();
        Check.read(y, "old");
        due("6 TALL is 60 at first", y.of(0, 1), 60);
        BoothFlash z = new BoothFlash();
        z.image();
        z.sitter(3, 3);
        for (int what = 2; what <= 6; what++) {
            z.change(0, what, 9);
        }
        z.undo();
        z.sitter(0, 60);
        for (int what = 2; what <= 6; what++) {
            due("6 a new one behind undo " + what, z.of(0, what), first[what - 2]);
        }
    }

    // Promise 6: BEYOND. FULL.
    private static void sitterBeyondBeforeFull() {
        EDGE.within("6 kind of a 9th is asked first", Edge::eight, 0, 6, (x, kind) -> x.sitter(kind, 60));
        EDGE.within("6 tall of a 9th is asked first", Edge::eight, 0, 90, (x, tall) -> x.sitter(0, tall));
    }

    // Terms 1: TALL (0 to 90), STILL, MERRY (0 to 9), COINS, TAKEN (0 to 999), TRIED (0 to 9999)
    private static void traitsGreatestAndLeast() {
        int[] most = {6, 90, 9, 9, 999, 999, 9999};
        for (int what = 0; what <= 6; what++) {
            BoothFlash x = one(2, 44);
            int was = x.of(0, what);
            due("8 the greatest of " + what, x.change(0, what, most[what]), was);
            due("7 the greatest of " + what, x.of(0, what), most[what]);
            due("8 the least of " + what, x.change(0, what, 0), most[what]);
            due("7 the least of " + what, x.of(0, what), 0);
            due("8 to itself " + what, x.change(0, what, 0), 0);
        }
    }

    private static void traitsOutside() {
        int[] most = {6, 90, 9, 9, 999, 999, 9999};
        for (int what = 0; what <= 6; what++) {
            int w = what;
            EDGE.within("8 change " + what, Edge::three, 0, most[what], (x, v) -> x.change(2, w, v));
        }
    }

    private static void ofHasNineWhats() {
        EDGE.within("7 what", Edge::three, 0, 8, (x, what) -> x.of(0, what));
        EDGE.within("7 sitter of three", Edge::three, 0, 2, (x, s) -> x.of(s, 1));
        EDGE.within("7 sitter of eight", Edge::eight, 0, 7, (x, s) -> x.of(s, 1));
        EDGE.asked("7 asks", Edge::three, 59, x -> x.of(2, 1));
    }

    // Promise 8: TRIED is the last that can be changed (OFF and MAY follow from the others)
    private static void changeHasSevenWhats() {
        EDGE.within("8 what", Edge::three, 0, 6, (x, what) -> x.change(0, what, 1));
        EDGE.within("8 sitter of three", Edge::three, 0, 2, (x, s) -> x.change(s, 1, 5));
        EDGE.within("8 sitter of eight", Edge::eight, 0, 7, (x, s) -> x.change(s, 1, 5));
        EDGE.refused("8 OFF", Edge::three, BEYOND, x -> x.change(0, 7, 1));
        EDGE.refused("8 MAY", Edge::three, BEYOND, x -> x.change(0, 8, 1));
    }

    // Terms 1: OFF: how far TALL and STOOL together are from 80
    private static void offAtTheEnds() {
        int[][] cases = {
            {0, 0, 80}, {90, 60, 70}, {90, 0, 10}, {0, 60, 20}, {20, 60, 0}, {80, 0, 0},
            {60, 20, 0}, {60, 19, 1}, {60, 21, 1}, {59, 20, 1}, {61, 20, 1}
        };
        for (int[] c : cases) {
            BoothFlash x = one(0, c[0]);
            x.set(0, c[1]);
            due("7 OFF, TALL " + c[0] + ", STOOL " + c[1], x.of(0, 7), c[2]);
        }
    }

    // Terms 1: MAY: SITTER 2, CHILD and 3, BABY twice, GLASSES, SHY less 1, OLD, TWIN
    private static void mayOfEachKind() {
        int[] may = {2, 5, 2, 1, 1, 2, 10};
        for (int kind : KINDS) {
            BoothFlash x = one(kind, 60);
            x.change(0, 2, 0);
            due("7 MAY of " + kind + ", least STILL", x.of(0, 8), may[kind]);
            x.change(0, 2, 9);
            due("7 MAY of " + kind + ", greatest STILL", x.of(0, 8), kind == 4 ? 4 : may[kind]);
        }
    }

    // Terms: Quotients are cut; OLD: a third (cut) of STILL
    private static void quotientsAreCut() {
        int[] third = {0, 0, 0, 1, 1, 1, 2, 2, 2, 3};
        BoothFlash x = one(4, 60);
        for (int still = 0; still <= 9; still++) {
            x.change(0, 2, still);
            due("7 MAY of OLD, STILL " + still, x.of(0, 8), 1 + third[still]);
        }
    }

    // Terms 1: 1 OFF by more than it MAY be
    private static void offByMoreThanMay() {
        for (int kind : KINDS) {
            BoothFlash x = one(kind, 40);
            x.change(0, 2, 8);
            int may = x.of(0, 8);
            int[] off = {-may - 1, -may, 0, may, may + 1};
            int[] want = {1111, 0, 0, 0, 1111};
            for (int i = 0; i < 5; i++) {
                x.set(0, 40 + off[i]);
                due("9 OFF of " + kind + " by " + off[i], bits(x, 0, 1), want[i]);
            }
        }
    }

    // Terms 1: SITTER (GLASSES, TWIN): if MINUTE, f and STILL together are a multiple of 4 (0 is one)
    private static void shutOfSitters() {
        long[] byStill = {1000, 1, 10, 100, 1000, 1, 10, 100, 1000, 1};
        int[] asSitter = {0, 1, 2, 5};
        for (int kind : asSitter) {
            BoothFlash x = one(kind, 60);
            for (int still = 0; still <= 9; still++) {
                x.change(0, 2, still);
                due("9 SHUT of " + kind + ", STILL " + still, bits(x, 0, 2), byStill[still]);
            }
        }
    }

    private static void shutOfSittersByMinute() {
        long[] byMinute = {1000, 1, 10, 100};
        BoothFlash x = one(5, 60);
        x.change(0, 2, 0);
        for (int minute = 0; minute <= 12; minute++) {
            due("9 SHUT in MINUTE " + minute, bits(x, 0, 2), byMinute[minute % 4]);
            x.go(1);
        }
    }

    // Terms 1: CHILD: as a SITTER, or if LIGHT is 8 or more
    private static void shutOfChild() {
        BoothFlash x = one(1, 60);
        int[] light = {0, 7, 8, 9};
        long[] want = {1, 1, 1111, 1111};
        for (int i = 0; i < 4; i++) {
            x.set(1, light[i]);
            due("9 SHUT of CHILD, LIGHT " + light[i], bits(x, 0, 2), want[i]);
        }
        BoothFlash y = one(0, 60);
        y.set(1, 9);
        due("9 no SITTER is SHUT by LIGHT", bits(y, 0, 2), 1);
    }

    // Terms 1: BABY: if f is even (0 is)
    private static void shutOfBaby() {
        BoothFlash x = one(6, 60);
        for (int minute = 0; minute < 12; minute++) {
            x.set(1, minute % 10);
            x.change(0, 2, minute % 10);
            due("9 SHUT of BABY, MINUTE " + minute, bits(x, 0, 2), 1010);
            x.go(1);
        }
    }

    // Terms 1: SHY: if MINUTE and f together are a multiple of 3 (0 is one)
    private static void shutOfShy() {
        long[] byMinute = {1001, 10, 100};
        BoothFlash x = one(3, 60);
        for (int minute = 0; minute < 9; minute++) {
            x.change(0, 2, minute);
            due("9 SHUT of SHY, MINUTE " + minute, bits(x, 0, 2), byMinute[minute % 3]);
            x.go(1);
        }
    }

    // Terms 1: OLD: as a SHY one, but never, if LIGHT is below 4
    private static void shutOfOld() {
        long[] byMinute = {1001, 10, 100};
        BoothFlash x = one(4, 60);
        for (int minute = 0; minute < 6; minute++) {
            for (int light = 0; light <= 9; light++) {
                x.set(1, light);
                long want = light < 4 ? 0 : byMinute[minute % 3];
                due("9 SHUT of OLD, LIGHT " + light + ", MINUTE " + minute, bits(x, 0, 2), want);
            }
            x.go(1);
        }
    }

    // Terms 1: SITTER (GLASSES): if MERRY is above 5, or f is 3 and MERRY above 2
    private static void smilesOfSitter() {
        long[] byMerry = {0, 0, 0, 1, 1, 1, 1111, 1111, 1111, 1111};
        int[] asSitter = {0, 2};
        for (int kind : asSitter) {
            BoothFlash x = one(kind, 60);
            for (int merry = 0; merry <= 9; merry++) {
                x.change(0, 3, merry);
                due("9 SMILES of " + kind + ", MERRY " + merry, bits(x, 0, 4), byMerry[merry]);
            }
        }
    }

    // Terms 1: CHILD: if MERRY and f together are above 4
    private static void smilesOfChild() {
        long[] byMerry = {0, 0, 1, 11, 111, 1111, 1111, 1111, 1111, 1111};
        BoothFlash x = one(1, 60);
        for (int merry = 0; merry <= 9; merry++) {
            x.change(0, 3, merry);
            due("9 SMILES of CHILD, MERRY " + merry, bits(x, 0, 4), byMerry[merry]);
        }
    }

    // Terms 1: BABY: never. SHY: never. OLD: never.
    private static void smilesNever() {
        int[] never = {3, 4, 6};
        for (int kind : never) {
            BoothFlash x = one(kind, 60);
            for (int merry = 0; merry <= 9; merry++) {
                x.change(0, 3, merry);
                due("9 SMILES of " + kind + ", MERRY " + merry, bits(x, 0, 4), 0);
            }
        }
    }

    // Terms 1: TWIN: as a SITTER, but never at FLASH 0
    private static void smilesOfTwin() {
        long[] byMerry = {0, 0, 0, 1, 1, 1, 111, 111, 111, 111};
        BoothFlash x = one(5, 60);
        for (int merry = 0; merry <= 9; merry++) {
            x.change(0, 3, merry);
            due("9 SMILES of TWIN, MERRY " + merry, bits(x, 0, 4), byMerry[merry]);
        }
    }

    // Terms 1: GLASSES: if LIGHT is above 6. SHY: as a GLASSES one. OLD: above 5. (All others never.)
    private static void shinesAbove() {
        int[] from = {10, 10, 7, 7, 6, 10, 10};
        for (int kind : KINDS) {
            BoothFlash x = one(kind, 60);
            for (int light = 0; light <= 9; light++) {
                x.set(1, light);
                due("9 SHINES of " + kind + ", LIGHT " + light, bits(x, 0, 8), light >= from[kind] ? 1111 : 0);
            }
        }
    }

    // Terms 1: 16 LIGHT is below 2
    private static void lightBelowTwo() {
        for (int kind : KINDS) {
            BoothFlash x = one(kind, 60);
            for (int light = 0; light <= 9; light++) {
                x.set(1, light);
                due("9 LIGHT " + light + " of " + kind, bits(x, 0, 16), light < 2 ? 1111 : 0);
            }
        }
    }

    // Terms 1: FAULTS of a FLASH, as a set: each alone
    private static void eachFaultAlone() {
        BoothFlash x = one(2, 60);
        due("9 none", x.faults(0, 0), 0);
        x.change(0, 1, 63);
        due("9 OFF alone", x.faults(0, 0), 1);
        x.change(0, 1, 60);
        x.change(0, 2, 4);
        due("9 SHUT alone", x.faults(0, 0), 2);
        x.change(0, 2, 5);
        x.change(0, 3, 6);
        due("9 SMILES alone", x.faults(0, 0), 4);
        x.change(0, 3, 5);
        x.set(1, 7);
        due("9 SHINES alone", x.faults(0, 0), 8);
        x.set(1, 1);
        due("9 LIGHT alone", x.faults(0, 0), 16);
        x.set(1, 2);
        due("9 none again", x.faults(0, 0), 0);
    }

    // Terms 1: FAULTS of a FLASH, as a set: several
    private static void allFaultsAtOnce() {
        BoothFlash x = one(2, 90);
        x.change(0, 3, 9);
        x.change(0, 2, 0);
        x.set(1, 9);
        due("9 OFF, SHUT, SMILES, SHINES", x.faults(0, 0), 15);
        due("9 OFF, SMILES, SHINES", x.faults(0, 1), 13);
        x.set(1, 0);
        due("9 OFF, SHUT, SMILES, LIGHT", x.faults(0, 0), 23);
        x.set(1, 5);
        x.set(0, 0);
        x.change(0, 1, 80);
        x.change(0, 3, 0);
        due("9 none", x.faults(0, 1), 0);
    }

    // Promise 9: FLASH f (0 to 3). BEYOND.
    private static void faultsHasFourFlashes() {
        EDGE.within("9 f", Edge::three, 0, 3, (x, f) -> x.faults(0, f));
        EDGE.within("9 sitter of three", Edge::three, 0, 2, (x, s) -> x.faults(s, 0));
        EDGE.within("9 sitter of eight", Edge::eight, 0, 7, (x, s) -> x.faults(s, 3));
        EDGE.asked("9 asks", Edge::three, Edge.three().faults(1, 2), x -> x.faults(1, 2));
    }

    // Terms: of several that would do the least number counts
    private static void bestIsTheLeastOfSeveral() {
        BoothFlash x = one(0, 60);
        x.change(0, 3, 0);
        int[] byStill = {1, 0, 0, 0};
        for (int still = 0; still < 4; still++) {
            x.change(0, 2, still);
            due("10 three alike, STILL " + still, x.best(0), byStill[still]);
        }
        BoothFlash y = one(6, 60);
        due("10 BABY: 1 and 3 alike", y.best(0), 1);
        y.set(0, 60);
        due("10 BABY: 1 and 3 alike, OFF", y.best(0), 1);
        BoothFlash z = one(3, 60);
        z.go(2);
        due("10 SHY: 0, 2 and 3 alike", z.best(0), 0);
        z.go(1);
        due("10 SHY: 1 and 2 alike", z.best(0), 1);
    }

    // Promise 10: fewest FAULTS, so a number of them: 16 alone is fewer than 1 and 2
    private static void bestHasFewestNotLeast() {
        BoothFlash x = one(1, 60);
        x.change(0, 2, 0);
        x.change(0, 3, 4);
        due("10 SHUT alone, or SMILES alone: the least f", x.best(0), 0);
        due("10 as told", x.faults(0, 0), 2);
        due("10 as told", x.faults(0, 1), 4);
        x.change(0, 2, 1);
        due("10 none at 0", x.best(0), 0);
        BoothFlash y = one(1, 60);
        y.change(0, 2, 3);
        y.change(0, 3, 4);
        due("10 none, SHUT and SMILES, ..", y.best(0), 0);
        due("10 as told", y.faults(0, 1), 6);
        y.set(1, 0);
        due("10 in the dark", y.best(0), 0);
        BoothFlash last = one(0, 60);
        last.change(0, 3, 2);
        last.change(0, 2, 1);
        due("10 SHUT at 3 alone", last.best(0), 0);
        EDGE.within("10 sitter of three", Edge::three, 0, 2, BoothFlash::best);
        EDGE.within("10 sitter of eight", Edge::eight, 0, 7, BoothFlash::best);
        EDGE.asked("10 asks", Edge::three, Edge.three().best(2), z -> z.best(2));
    }

    // BEYOND without SITTERS
    private static void nobodyThere() {
        EDGE.refused("7 of nobody", Edge::none, BEYOND, x -> x.of(0, 0));
        EDGE.refused("8 of nobody", Edge::none, BEYOND, x -> x.change(0, 1, 1));
        EDGE.refused("9 of nobody", Edge::none, BEYOND, x -> x.faults(0, 0));
        EDGE.refused("10 of nobody", Edge::none, BEYOND, x -> x.best(0));
        EDGE.refused("7 of -1", Edge::eight, BEYOND, x -> x.of(-1, 0));
        EDGE.refused("9 of -1", Edge::eight, BEYOND, x -> x.faults(-1, 0));
        EDGE.refused("10 of -1", Edge::eight, BEYOND, x -> x.best(-1));
    }
}
