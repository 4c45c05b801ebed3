/** Promises 13 to 24, what will be and how to sit: each sentence that names a boundary has its own test. */
public final class FutureEdgesTest {
    private static final int BEYOND = -1000001;
    private static final int NONE = -1000004;
    private static final int STATE = -1000005;

    private static final Check CHECK = new Check("FutureEdgesTest");
    private static final Edge EDGE = new Edge(CHECK);

    public static void main(String[] args) {
        nothingChanges();
        nobodyThere();
        aheadWhats();
        aheadFromNowTo200();
        laterWhats();
        laterFromNowTo200();
        whenBounds();
        whenAtTheLast();
        whenNone();
        brokeIsBelowPrice();
        brokeAtTheLast();
        brokeNone();
        allWithoutSitters();
        allNowAndNever();
        allOfEight();
        allAtTheLast();
        stoolForAtTheEnds();
        stoolForLeastOfSeveral();
        stoolForAsNow();
        lightForBounds();
        lightForLeast();
        lightForMoreThanNow();
        lightForInTime();
        turnForBounds();
        turnForLeastOfSeveral();
        turnForWraps();
        turnForTooAndInstead();
        turnForTakenNotTried();
        kindForBounds();
        kindForLeastOfSeveral();
        kindForMost();
        merryForBounds();
        merryForGreatest();
        merryForNone();
        priceForBounds();
        priceForLeastOfSeveral();
        priceForWhatItHas();
        priceForTillAtMost();
        awayBounds();
        awayNobodyMust();
        awayFewestThenLeast();
        awayFiveOfThem();
        awayInAllPlaces();
        awayInTime();
        awayNotItself();
        CHECK.end();
    }

    private static void due(String call, long got, long want) {
        CHECK.due(call, got, want);
    }

    /** One SITTER, so TALL, in every place. */
    private static BoothFlash one(int kind, int tall) {
        BoothFlash x = new BoothFlash();
        x.sitter(kind, tall);
        for (int p = 0; p < 6; p++) {
            x.queue(p, 0);
        }
        return x;
    }

    /** One SITTER, 60 TALL, in one place. */
    private static BoothFlash inPlace(int kind, int place) {
        BoothFlash x = new BoothFlash();
        x.sitter(kind, 60);
        x.queue(place, 0);
        return x;
    }

    // ---- what will be (nothing changes)
    private static void nothingChanges() {
        Edge.Maker[] makers = {Edge::three, Edge::eight};
        for (Edge.Maker m : makers) {
            EDGE.asked("13", m, m.make().ahead(1, 4, 200), x -> x.ahead(1, 4, 200));
            EDGE.asked("14", m, m.make().later(0, 200), x -> x.later(0, 200));
            EDGE.asked("15", m, m.make().when(1, 1), x -> x.when(1, 1));
            EDGE.asked("18", m, m.make().stoolFor(2), x -> x.stoolFor(2));
            EDGE.asked("19", m, m.make().lightFor(0, 60), x -> x.lightFor(0, 60));
            EDGE.asked("20", m, m.make().turnFor(0, 60), x -> x.turnFor(0, 60));
            EDGE.asked("21", m, m.make().kindFor(1, 60), x -> x.kindFor(1, 60));
            EDGE.asked("22", m, m.make().merryFor(0, 60), x -> x.merryFor(0, 60));
            EDGE.asked("23", m, m.make().priceFor(60), x -> x.priceFor(60));
            EDGE.asked("24", m, m.make().away(2, 1, 20), x -> x.away(2, 1, 20));
        }
        EDGE.asked("16", () -> inPlace(0, 0), 37, x -> x.broke(0));
        EDGE.asked("17", () -> inPlace(0, 5), 6, BoothFlash::all);
        EDGE.asked("14 without SITTERS", Edge::none, 30, x -> x.later(0, 200));
        EDGE.asked("14 without SITTERS", Edge::none, 40, x -> x.later(3, 200));
        EDGE.asked("23 without SITTERS", Edge::none, 0, x -> x.priceFor(60));
    }

    // BEYOND: no such SITTER
    private static void nobodyThere() {
        Edge.Maker[] makers = {Edge::none, Edge::three, Edge::eight};
        int[] many = {0, 3, 8};
        for (int i = 0; i < 3; i++) {
            int[] who = {-1, many[i], Edge.LEAST, Edge.GREATEST};
            for (int s : who) {
                Edge.Maker m = makers[i];
                EDGE.refused("13 of " + s, m, BEYOND, x -> x.ahead(s, 2, 0));
                EDGE.refused("15 of " + s, m, BEYOND, x -> x.when(s, 0));
                EDGE.refused("16 of " + s, m, BEYOND, x -> x.broke(s));
                EDGE.refused("18 of " + s, m, BEYOND, x -> x.stoolFor(s));
                EDGE.refused("19 of " + s, m, BEYOND, x -> x.lightFor(s, 1));
                EDGE.refused("20 of " + s, m, BEYOND, x -> x.turnFor(s, 1));
                EDGE.refused("21 of " + s, m, BEYOND, x -> x.kindFor(s, 1));
                EDGE.refused("22 of " + s, m, BEYOND, x -> x.merryFor(s, 1));
                EDGE.refused("24 of " + s, m, BEYOND, x -> x.away(s, 0, 0));
            }
        }
        EDGE.within("16 sitter", Edge::eight, 0, 7, BoothFlash::broke);
        EDGE.within("18 sitter", Edge::eight, 0, 7, BoothFlash::stoolFor);
    }

    // Promise 13: What 2 to 6 (as in of())
    private static void aheadWhats() {
        EDGE.within("13 what", Edge::three, 2, 6, (x, what) -> x.ahead(1, what, 1));
        EDGE.refused("13 KIND", Edge::three, BEYOND, x -> x.ahead(1, 0, 1));
        EDGE.refused("13 OFF", Edge::three, BEYOND, x -> x.ahead(1, 7, 1));
        EDGE.refused("13 MAY", Edge::three, BEYOND, x -> x.ahead(1, 8, 1));
        BoothFlash x = Edge.eight();
        for (int what = 2; what <= 6; what++) {
            due("13 as in of() " + what, x.ahead(7, what, 0), x.of(7, what));
        }
    }

    // Promise 13: behind n (0 to 200) MINUTES
    private static void aheadFromNowTo200() {
        EDGE.within("13 n", Edge::three, 0, 200, (x, n) -> x.ahead(1, 4, n));
        BoothFlash x = inPlace(6, 1);
        x.set(2, 0);
        due("13 now", x.ahead(0, 6, 0), 0);
        due("13 before the turn", x.ahead(0, 6, 1), 0);
        due("13 behind the turn", x.ahead(0, 6, 2), 1);
        due("13 before the last turn", x.ahead(0, 6, 199), 33);
        due("13 behind the last turn", x.ahead(0, 6, 200), 34);
        due("13 pay", x.ahead(0, 4, 198), 20 + 33 * 3);
        x.go(100);
        due("13 in later MINUTES", x.ahead(0, 6, 100), 34);
    }

    // Promise 14: STOOL (what 0), TILL (3)
    private static void laterWhats() {
        int[] others = {1, 2, -1, 4, Edge.LEAST, Edge.GREATEST};
        for (int what : others) {
            EDGE.refused("14 what " + what, Edge::three, BEYOND, x -> x.later(what, 0));
        }
        BoothFlash x = Edge.three();
        due("14 STOOL now", x.later(0, 0), x.booth(0));
        due("14 TILL now", x.later(3, 0), x.booth(3));
    }

    // Promise 14: behind n (0 to 200) MINUTES
    private static void laterFromNowTo200() {
        EDGE.within("14 n of STOOL", Edge::three, 0, 200, (x, n) -> x.later(0, n));
        EDGE.within("14 n of TILL", Edge::none, 0, 200, (x, n) -> x.later(3, n));
        BoothFlash x = inPlace(0, 1);
        x.set(2, 2);
        x.set(0, 60);
        due("14 TILL before the turn", x.later(3, 1), 0);
        due("14 TILL behind the turn", x.later(3, 2), 2);
        due("14 TILL before the last turn", x.later(3, 199), 66);
        due("14 TILL behind the last turn", x.later(3, 200), 68);
        due("14 STOOL behind the turn", x.later(0, 2), 56);
        due("14 STOOL in 10 turns", x.later(0, 56), 20);
        due("14 STOOL in 9 turns", x.later(0, 55), 24);
    }

    // Promise 15: v (0 to 999). BEYOND.
    private static void whenBounds() {
        EDGE.within("15 v", Edge::three, 0, 999, (x, v) -> x.when(0, v));
        EDGE.within("15 sitter", Edge::eight, 0, 7, (x, s) -> x.when(s, 0));
        BoothFlash x = one(0, 60);
        due("15 v 0 is so now", x.when(0, 0), 0);
        x.change(0, 5, 7);
        due("15 as many as now", x.when(0, 7), 0);
        due("15 fewer than now", x.when(0, 6), 0);
        due("15 one more than now", x.when(0, 8), 1);
        x.change(0, 5, 999);
        due("15 the greatest is so now", x.when(0, 999), 0);
        x.change(0, 5, 998);
        due("15 the greatest in a MINUTE", x.when(0, 999), 1);
    }

    // Promise 15: (0 to 200, the fewest)
    private static void whenAtTheLast() {
        BoothFlash x = inPlace(6, 1);
        x.set(2, 0);
        due("15 behind 194", x.when(0, 33), 194);
        due("15 behind 200", x.when(0, 34), 200);
        due("15 behind 206", x.when(0, 35), NONE);
        BoothFlash y = inPlace(6, 2);
        y.set(2, 0);
        due("15 behind 195", y.when(0, 33), 195);
        due("15 behind 201", y.when(0, 34), NONE);
    }

    private static void whenNone() {
        EDGE.refused("15 never", Edge::three, NONE, x -> x.when(0, 999));
        EDGE.refused("15 never, eight", Edge::eight, NONE, x -> x.when(7, 1));
        BoothFlash x = new BoothFlash();
        x.sitter(0, 60);
        due("15 not in THE QUEUE", x.when(0, 1), NONE);
    }

    // Promise 16: COINS are less than PRICE
    private static void brokeIsBelowPrice() {
        BoothFlash x = inPlace(0, 0);
        int[] coins = {0, 4, 5, 9, 10};
        int[] want = {0, 0, 1, 1, 7};
        for (int i = 0; i < 5; i++) {
            x.change(0, 4, coins[i]);
            due("16 COINS " + coins[i], x.broke(0), want[i]);
        }
        x.queue(0, -1);
        x.change(0, 4, 4);
        due("16 not in THE QUEUE, broke now", x.broke(0), 0);
        x.change(0, 4, 5);
        due("16 not in THE QUEUE", x.broke(0), NONE);
    }

    // Promise 16: (0 to 200, the fewest)
    private static void brokeAtTheLast() {
        BoothFlash x = inPlace(0, 1);
        x.set(2, 20);
        int[] coins = {583, 584, 600, 601};
        int[] want = {194, 200, 200, NONE};
        for (int i = 0; i < 4; i++) {
            x.change(0, 4, coins[i]);
            due("16 COINS " + coins[i], x.broke(0), want[i]);
        }
    }

    private static void brokeNone() {
        EDGE.refused("16 PRICE 0", () -> {
            BoothFlash x = Edge.three();
            x.set(2, 0);
            return x;
        }, NONE, x -> x.broke(0));
        BoothFlash x = inPlace(0, 0);
        x.set(2, 0);
        x.change(0, 4, 0);
        due("16 PRICE 0, COINS 0", x.broke(0), NONE);
        x.set(2, 3);
        x.change(0, 4, 6);
        due("16 as much pay as PRICE", x.broke(0), NONE);
        x.change(0, 4, 5);
        due("16 not quite", x.broke(0), 1);
    }

    // Promise 17: STATE: there are none. NONE.
    private static void allWithoutSitters() {
        EDGE.refused("17 STATE", Edge::none, STATE, BoothFlash::all);
        EDGE.refused("17 STATE on a new one", BoothFlash::new, STATE, BoothFlash::all);
        BoothFlash x = new BoothFlash();
        x.image();
        x.sitter(0, 60);
        due("17 one, not in THE QUEUE", x.all(), NONE);
        x.undo();
        due("17 none again", x.all(), STATE);
    }

    private static void allNowAndNever() {
        BoothFlash x = inPlace(0, 0);
        due("17 in a MINUTE", x.all(), 1);
        x.change(0, 5, 1);
        due("17 now", x.all(), 0);
        x.sitter(0, 60);
        due("17 another isn't", x.all(), NONE);
        EDGE.refused("17 NONE", () -> {
            BoothFlash y = Edge.three();
            y.set(1, 0);
            y.change(0, 5, 0);
            return y;
        }, NONE, BoothFlash::all);
    }

    private static void allOfEight() {
        BoothFlash x = new BoothFlash();
        for (int s = 0; s < 8; s++) {
            x.sitter(0, 60);
            x.change(s, 5, 1);
        }
        due("17 eight", x.all(), 0);
        x.change(7, 5, 0);
        due("17 all but the last", x.all(), NONE);
        x.queue(5, 7);
        due("17 the last in place 5", x.all(), 6);
        x.change(0, 5, 0);
        due("17 all but two", x.all(), NONE);
        x.queue(0, 0);
        due("17 both", x.all(), 6);
    }

    /** One who has coins turns the stool away, and another gets it back when these are gone. */
    private static BoothFlash turned(int coins) {
        BoothFlash x = new BoothFlash();
        x.sitter(0, 60);
        x.sitter(0, 0);
        x.queue(1, 0);
        x.queue(0, 1);
        x.queue(5, 1);
        x.set(2, 20);
        x.change(0, 4, 999);
        x.change(1, 4, coins);
        x.change(1, 5, 1);
        x.set(0, 40);
        return x;
    }

    // Promise 17: (0 to 200, the fewest)
    private static void allAtTheLast() {
        int at200 = 0;
        int tooLate = 0;
        for (int coins = 600; coins <= 999; coins += 3) {
            BoothFlash x = turned(coins);
            int all = x.all();
            BoothFlash y = turned(coins);
            int minutes = 0;
            while (minutes <= 200 && y.of(0, 5) == 0) {
                y.go(1);
                minutes++;
            }
            due("17 COINS " + coins, all, minutes <= 200 ? minutes : NONE);
            at200 += minutes == 200 ? 1 : 0;
            tooLate += minutes > 200 ? 1 : 0;
        }
        CHECK.isTrue("17 some at 200", at200 > 0);
        CHECK.isTrue("17 some later", tooLate > 0);
    }

    // Promise 18: The STOOL (0 to 60)
    private static void stoolForAtTheEnds() {
        int[][] cases = {
            {0, 90, 0}, {0, 83, 0}, {0, 82, 0}, {0, 81, 0}, {0, 80, 0}, {0, 78, 0}, {0, 77, 1},
            {0, 19, 59}, {0, 18, 60}, {0, 17, 0}, {0, 0, 0},
            {6, 90, 0}, {6, 70, 0}, {6, 69, 1}, {6, 11, 59}, {6, 10, 60}, {6, 9, 0},
            {3, 19, 60}, {3, 18, 0}, {1, 15, 60}, {1, 14, 0}
        };
        for (int[] c : cases) {
            due("18 KIND " + c[0] + ", TALL " + c[1], one(c[0], c[1]).stoolFor(0), c[2]);
        }
        BoothFlash x = one(4, 16);
        x.change(0, 2, 9);
        due("18 OLD, STILL 9", x.stoolFor(0), 60);
        x.change(0, 2, 8);
        due("18 OLD, STILL 8", x.stoolFor(0), 0);
    }

    // Terms: of several that would do the least number counts
    private static void stoolForLeastOfSeveral() {
        int[] may = {2, 5, 2, 1, 2, 2, 10};
        for (int kind = 0; kind <= 6; kind++) {
            due("18 the least of " + kind, one(kind, 50).stoolFor(0), 30 - may[kind]);
        }
    }

    private static void stoolForAsNow() {
        BoothFlash x = one(0, 50);
        x.set(0, 60);
        x.set(1, 0);
        x.change(0, 3, 9);
        due("18 with other FAULTS, too", x.stoolFor(0), 28);
        due("18 STOOL stays", x.booth(0), 60);
    }

    // Promise 19: n (0 to 60). BEYOND. NONE.
    private static void lightForBounds() {
        EDGE.within("19 n", Edge::three, 0, 60, (x, n) -> x.lightFor(0, n));
        EDGE.within("19 sitter", Edge::eight, 0, 7, (x, s) -> x.lightFor(s, 60));
        EDGE.refused("19 no MINUTE", Edge::three, NONE, x -> x.lightFor(0, 0));
    }

    private static void lightForLeast() {
        for (int light = 0; light <= 9; light++) {
            BoothFlash x = one(2, 60);
            x.set(1, light);
            due("19 the least, LIGHT " + light, x.lightFor(0, 1), 2);
        }
        for (int kind = 0; kind <= 6; kind++) {
            due("19 the least of KIND " + kind, one(kind, 60).lightFor(0, 6), 2);
        }
    }

    // Promise 19: TAKEN is more than now
    private static void lightForMoreThanNow() {
        BoothFlash x = one(0, 60);
        x.change(0, 5, 998);
        due("19 one more can be", x.lightFor(0, 60), 2);
        x.change(0, 5, 999);
        due("19 none more can be", x.lightFor(0, 60), NONE);
        x.change(0, 5, 5);
        x.set(2, 20);
        x.change(0, 4, 0);
        due("19 who can't pay yet", x.lightFor(0, 42), NONE);
        due("19 who can pay then", x.lightFor(0, 43), 2);
    }

    private static void lightForInTime() {
        BoothFlash x = inPlace(1, 5);
        x.change(0, 3, 9);
        x.change(0, 4, 40);
        int late = x.when(0, 1);
        due("19 it SMILES five times, and is SHUT at 0 in MINUTE 35", late, 42);
        due("19 a MINUTE too few", x.lightFor(0, late - 1), NONE);
        due("19 just enough", x.lightFor(0, late), 2);
        BoothFlash y = inPlace(0, 5);
        y.change(0, 3, 9);
        y.change(0, 1, 20);
        y.change(0, 4, 999);
        y.set(0, 22);
        due("19 nine turns of the STOOL: STOOL 58, just on the line", y.when(0, 1), 54);
        due("19 a MINUTE too few", y.lightFor(0, 53), NONE);
        due("19 just enough", y.lightFor(0, 54), 2);
    }

    // Promise 20: n (0 to 60). BEYOND.
    private static void turnForBounds() {
        EDGE.within("20 n", Edge::three, 0, 60, (x, n) -> x.turnFor(0, n));
        EDGE.within("20 sitter", Edge::eight, 0, 7, (x, s) -> x.turnFor(s, 60));
    }

    private static void turnForLeastOfSeveral() {
        BoothFlash x = new BoothFlash();
        x.sitter(6, 60);
        due("20 no MINUTE: all alike", x.turnFor(0, 0), 0);
        due("20 in place 0", x.turnFor(0, 1), 0);
        due("20 six MINUTES: all alike", x.turnFor(0, 6), 0);
        x.change(0, 4, 0);
        due("20 who can't pay: all alike", x.turnFor(0, 6), 0);
        x.change(0, 4, 2);
        due("20 it can pay behind the pay", x.turnFor(0, 8), 0);
        x.go(1);
        due("20 it can pay behind the pay, in MINUTE 6", x.turnFor(0, 6), 0);
        x.change(0, 4, 5);
        due("20 once in each of places 1, 2, ..", x.turnFor(0, 5), 1);
    }

    private static void turnForWraps() {
        for (int minute = 0; minute <= 13; minute++) {
            BoothFlash x = new BoothFlash();
            x.sitter(6, 60);
            if (minute > 0) {
                x.go(minute);
            }
            due("20 next place in MINUTE " + minute, x.turnFor(0, 1), minute % 6);
            int two = minute % 6 == 5 ? 0 : minute % 6;
            due("20 either of two in MINUTE " + minute, x.turnFor(0, 2), two);
        }
    }

    // Promise 20: in which it must be now, too (instead of who is there)
    private static void turnForTooAndInstead() {
        BoothFlash x = inPlace(6, 0);
        due("20 there already, and in another", x.turnFor(0, 6), 1);
        x.queue(1, 0);
        x.queue(2, 0);
        x.queue(3, 0);
        x.queue(4, 0);
        x.set(2, 0);
        due("20 in the only one left", x.turnFor(0, 6), 5);
        x.queue(5, 0);
        due("20 in all: all alike", x.turnFor(0, 6), 0);
        BoothFlash y = new BoothFlash();
        y.sitter(0, 60);
        y.sitter(0, 0);
        y.queue(3, 1);
        y.queue(4, 1);
        y.queue(5, 0);
        y.change(0, 4, 5);
        due("20 in place 0: its COINS are gone then", y.turnFor(0, 1), 0);
        y.change(0, 4, 20);
        y.go(3);
        due("20 instead of one who turns the STOOL", y.turnFor(0, 3), 3);
        due("20 who is there stays", y.place(3), 1);
    }

    // Promise 20: so that TAKEN of it (not TRIED) is most
    private static void turnForTakenNotTried() {
        BoothFlash x = new BoothFlash();
        x.sitter(0, 60);
        x.sitter(0, 60);
        x.queue(1, 1);
        x.set(0, 28);
        due("20 another gets the STOOL back before", x.turnFor(0, 6), 2);
        x.set(0, 30);
        due("20 just on the line", x.turnFor(0, 6), 2);
        x.set(0, 31);
        due("20 too far off: all alike", x.turnFor(0, 6), 0);
        x.set(0, 26);
        due("20 it isn't needed", x.turnFor(0, 6), 0);
    }

    // Promise 21: n (0 to 60). BEYOND.
    private static void kindForBounds() {
        EDGE.within("21 n", Edge::three, 0, 60, (x, n) -> x.kindFor(0, n));
        EDGE.within("21 sitter", Edge::eight, 0, 7, (x, s) -> x.kindFor(s, 60));
    }

    private static void kindForLeastOfSeveral() {
        for (int kind = 0; kind <= 6; kind++) {
            BoothFlash x = one(kind, 60);
            due("21 no MINUTE: all alike " + kind, x.kindFor(0, 0), 0);
            due("21 one MINUTE: all alike " + kind, x.kindFor(0, 1), 0);
            x.set(1, 1);
            due("21 in the dark: all alike " + kind, x.kindFor(0, 60), 0);
        }
    }

    private static void kindForMost() {
        int[][] cases = {
            {45, 0}, {46, 6}, {50, 6}, {51, 1}, {53, 1}, {54, 0}, {66, 0}, {67, 1}, {69, 1}, {70, 6}, {74, 6}, {75, 0}
        };
        for (int[] c : cases) {
            due("21 TALL " + c[0], one(0, c[0]).kindFor(0, 1), c[1]);
        }
        BoothFlash y = one(0, 60);
        y.change(0, 3, 6);
        due("21 MERRY 6", y.kindFor(0, 1), 3);
        y.set(1, 8);
        due("21 MERRY 6, LIGHT 8", y.kindFor(0, 1), 5);
        y.change(0, 2, 4);
        due("21 MERRY 6, LIGHT 8, SHUT at 0", y.kindFor(0, 1), 6);
        due("21 KIND stays", y.of(0, 0), 0);
    }

    // Promise 22: n (0 to 60). BEYOND. NONE.
    private static void merryForBounds() {
        EDGE.within("22 n", Edge::three, 0, 60, (x, n) -> x.merryFor(0, n));
        EDGE.within("22 sitter", Edge::eight, 0, 7, (x, s) -> x.merryFor(s, 60));
        EDGE.refused("22 no MINUTE", Edge::three, NONE, x -> x.merryFor(0, 0));
    }

    // Promise 22: The greatest MERRY
    private static void merryForGreatest() {
        int[] want = {5, 4, 5, 9, 9, 9, 9};
        for (int kind = 0; kind <= 6; kind++) {
            for (int merry = 0; merry <= 9; merry += 3) {
                BoothFlash x = one(kind, 60);
                x.change(0, 3, merry);
                due("22 the greatest of KIND " + kind + ", MERRY " + merry, x.merryFor(0, 1), want[kind]);
                due("22 MERRY stays", x.of(0, 3), merry);
            }
        }
        BoothFlash y = one(5, 60);
        y.change(0, 2, 4);
        due("22 TWIN, SHUT at 0", y.merryFor(0, 1), 5);
        BoothFlash z = one(1, 60);
        z.change(0, 2, 4);
        due("22 CHILD, SHUT at 0", z.merryFor(0, 1), 3);
        BoothFlash w = one(0, 60);
        w.set(2, 0);
        int[] inMinutes = {5, 6, 7, 8, 9, 9};
        for (int n = 1; n <= 6; n++) {
            due("22 behind " + n, w.merryFor(0, n), inMinutes[n - 1]);
        }
    }

    private static void merryForNone() {
        BoothFlash x = one(0, 60);
        x.change(0, 5, 999);
        due("22 none more can be", x.merryFor(0, 60), NONE);
        x.change(0, 5, 998);
        due("22 one more can be", x.merryFor(0, 60), 9);
        x.set(1, 1);
        due("22 in the dark", x.merryFor(0, 60), NONE);
        BoothFlash y = inPlace(0, 5);
        due("22 before its turn", y.merryFor(0, 5), NONE);
        due("22 behind its turn", y.merryFor(0, 6), 5);
    }

    // Promise 23: n (0 to 60). BEYOND.
    private static void priceForBounds() {
        EDGE.within("23 n", Edge::three, 0, 60, BoothFlash::priceFor);
        EDGE.within("23 n without SITTERS", Edge::none, 0, 60, BoothFlash::priceFor);
        EDGE.within("23 n with eight", Edge::eight, 0, 60, BoothFlash::priceFor);
    }

    private static void priceForLeastOfSeveral() {
        BoothFlash x = inPlace(0, 0);
        due("23 no MINUTE: all alike", x.priceFor(0), 0);
        x.set(2, 13);
        due("23 no MINUTE: all alike", x.priceFor(0), 0);
        due("23 without SITTERS", new BoothFlash().priceFor(60), 0);
        x.change(0, 4, 0);
        due("23 no COINS", x.priceFor(6), 0);
        BoothFlash y = one(0, 60);
        y.change(0, 4, 12);
        due("23 12 at once, twice 6, three times 4, ..", y.priceFor(1), 12);
        due("23 twice", y.priceFor(2), 6);
        due("23 three times", y.priceFor(3), 4);
        due("23 four times", y.priceFor(4), 3);
        due("23 twice 6 is as much as three times 4", y.priceFor(5), 3);
    }

    private static void priceForWhatItHas() {
        for (int coins = 0; coins <= 25; coins++) {
            BoothFlash x = inPlace(0, 0);
            x.change(0, 4, coins);
            due("23 COINS " + coins, x.priceFor(1), Math.min(coins, 20));
            due("23 PRICE stays", x.booth(2), 5);
        }
    }

    // Terms 1: TILL (.. 99999, at most)
    private static void priceForTillAtMost() {
        int[] till = {99979, 99980, 99989, 99998, 99999};
        int[] want = {20, 19, 10, 1, 0};
        for (int i = 0; i < 5; i++) {
            BoothFlash x = inPlace(0, 0);
            x.set(3, till[i]);
            due("23 TILL " + till[i], x.priceFor(1), want[i]);
        }
    }

    // Promise 24: v (0 to 999), n (0 to 20). BEYOND. NONE.
    private static void awayBounds() {
        EDGE.within("24 v", Edge::three, 0, 999, (x, v) -> x.away(0, v, 20));
        EDGE.within("24 n", Edge::three, 0, 20, (x, n) -> x.away(0, 0, n));
        EDGE.within("24 sitter", Edge::eight, 0, 7, (x, s) -> x.away(s, 1, 20));
        EDGE.refused("24 NONE", Edge::three, NONE, x -> x.away(0, 999, 20));
        EDGE.refused("24 NONE of eight", Edge::eight, NONE, x -> x.away(0, 999, 20));
    }

    private static void awayNobodyMust() {
        BoothFlash x = new BoothFlash();
        x.sitter(0, 60);
        due("24 alone, v 0", x.away(0, 0, 0), 0);
        due("24 alone, v 1", x.away(0, 1, 20), NONE);
        x.change(0, 5, 999);
        due("24 alone, the greatest v", x.away(0, 999, 0), 0);
        x.change(0, 5, 998);
        due("24 one too few", x.away(0, 999, 20), NONE);
        x.queue(0, 0);
        due("24 one more", x.away(0, 999, 1), 0);
        BoothFlash y = Edge.eight();
        due("24 v 0 of eight", y.away(7, 0, 20), 0);
    }

    /** SITTER 0 in the last place wants STOOL 20; the others, in the places before, want it higher. */
    private static BoothFlash amongTurners(int sitters, int stool) {
        BoothFlash x = new BoothFlash();
        for (int s = 0; s < sitters; s++) {
            x.sitter(0, s == 0 ? 60 : 0);
        }
        x.queue(5, 0);
        x.set(0, stool);
        return x;
    }

    // Promise 24: The set of fewest; of several the least
    private static void awayFewestThenLeast() {
        BoothFlash x = amongTurners(8, 22);
        x.queue(3, 7);
        x.queue(4, 3);
        due("24 either of 3 and 7: the least", x.away(0, 1, 6), 1 << 3);
        x.queue(2, 7);
        due("24 7 alone, though 3 is less", x.away(0, 1, 6), 1 << 7);
        x.queue(1, 3);
        due("24 3 and 7", x.away(0, 1, 6), 1 << 3 | 1 << 7);
        x.queue(2, 5);
        x.queue(3, 6);
        x.queue(1, -1);
        due("24 two of 3, 5, 6: the least set", x.away(0, 1, 6), 1 << 3 | 1 << 5);
        BoothFlash y = amongTurners(5, 22);
        y.queue(0, 4);
        y.queue(1, 4);
        y.queue(2, 1);
        y.queue(3, 2);
        due("24 one of 1 and 2, and 4, twice in it", y.away(0, 1, 6), 1 << 1 | 1 << 4);
        BoothFlash z = amongTurners(8, 18);
        z.queue(0, 7);
        z.queue(1, 7);
        z.queue(2, 1);
        z.queue(3, 2);
        due("24 7 alone: fewer than 1 and 2, though these are a lesser set", z.away(0, 1, 6), 1 << 7);
        z.queue(1, 6);
        due("24 any two of four: the least set", z.away(0, 1, 6), 1 << 1 | 1 << 2);
    }

    private static void awayFiveOfThem() {
        BoothFlash x = amongTurners(8, 26);
        for (int p = 0; p < 5; p++) {
            x.queue(p, p + 3);
        }
        due("24 five of them", x.away(0, 1, 6), 248);
        x.set(0, 27);
        due("24 not even all", x.away(0, 1, 6), NONE);
        BoothFlash y = new BoothFlash();
        for (int s = 0; s < 8; s++) {
            y.sitter(0, s == 7 ? 60 : 0);
        }
        y.queue(5, 7);
        for (int p = 0; p < 5; p++) {
            y.queue(p, p);
        }
        y.set(0, 26);
        due("24 the five least", y.away(7, 1, 6), 31);
    }

    // Promise 24: their places in THE QUEUE are as if nobody were there
    private static void awayInAllPlaces() {
        BoothFlash x = amongTurners(2, 26);
        for (int p = 0; p < 5; p++) {
            x.queue(p, 1);
        }
        due("24 out of all its places", x.away(0, 1, 6), 2);
        for (int p = 0; p < 5; p++) {
            due("24 place stays " + p, x.place(p), 1);
        }
        due("24 STOOL stays", x.booth(0), 26);
    }

    // Promise 24: behind n (0 to 20) MINUTES
    private static void awayInTime() {
        BoothFlash x = inPlace(6, 1);
        due("24 before the turn", x.away(0, 1, 1), NONE);
        due("24 behind the turn", x.away(0, 1, 2), 0);
        due("24 four before 20", x.away(0, 4, 19), NONE);
        due("24 four in 20", x.away(0, 4, 20), 0);
        due("24 five in 20", x.away(0, 5, 20), NONE);
    }

    private static void awayNotItself() {
        BoothFlash x = new BoothFlash();
        x.sitter(0, 60);
        x.queue(0, 0);
        x.sitter(0, 60);
        due("24 it is never one of them", x.away(0, 1, 1), 0);
        x.set(1, 0);
        due("24 nor are others who can't help", x.away(0, 1, 20), NONE);
    }
}
