/** Promises 11, 12, 28 and 30, what a MINUTE does and the DRAWS: each boundary has its own test. */
public final class MinuteEdgesTest {
    private static final int BEYOND = -1000001;
    private static final int STATE = -1000005;

    private static final Check CHECK = new Check("MinuteEdgesTest");
    private static final Edge EDGE = new Edge(CHECK);

    public static void main(String[] args) {
        placeIsMinuteModuloSix();
        nobodyInThePlace();
        coinsArePriceOrMore();
        priceNought();
        priceGreatest();
        tillAtMost();
        triedAtMost();
        stoolByFourAtMost();
        stoolHeldWithin();
        stoolTurnsAlsoWithFaults();
        flashesBehindTheTurn();
        flashesBeforeTheNextMinute();
        oneFlashIsEnough();
        takenOnceAMinute();
        takenAtMost();
        stillAtMost();
        merryAtLeast();
        merryStaysWithPicture();
        payAtMultiplesOfSix();
        payAtMost();
        payComesLast();
        minuteAtMost();
        goFromOneToHundred();
        goTellsTaken();
        goWithoutSitters();
        goStateBeyondTheLastMinute();
        lampsStateBeyondTheLastMinute();
        nowHasSevenWhats();
        nowWithoutSitters();
        nowWithEight();
        nowNextWraps();
        nowClearAsStoolIs();
        nowCommonOfAllFour();
        lampsFromOneToTwenty();
        lampsTwoDrawsEach();
        lampsSitterNotThere();
        lampsSitterSits();
        drawsWrap();
        drawsWithoutSign();
        seedAnyInt();
        CHECK.end();
    }

    private static void due(String call, long got, long want) {
        CHECK.due(call, got, want);
    }

    /** One SITTER, so TALL, in every place. */
    private static BoothFlash one(int kind, int tall) {
        BoothFlash x = new BoothFlash();
        x.sitter(kind, tall);
        for (int p = 0; p < 6; p++) {
            x.queue(p, 0);
        }
        return x;
    }

    /** More MINUTES than 512 calls bring: what is behind them is free, and stands as its words say. */
    private static BoothFlash inMinute(BoothFlash x, int minute) {
        for (int i = 0; i < 1000 && minute - x.now(0) >= 100; i++) {
            x.go(100);
        }
        if (x.now(0) < minute) {
            x.go(minute - x.now(0));
        }
        return x;
    }

    // Terms 2: the SITTER in THE QUEUE's place for MINUTE modulo 6
    private static void placeIsMinuteModuloSix() {
        BoothFlash x = new BoothFlash();
        for (int s = 0; s < 6; s++) {
            x.sitter(0, 60);
            x.change(s, 4, 500);
        }
        for (int p = 0; p < 6; p++) {
            x.queue(p, 5 - p);
        }
        for (int minute = 0; minute < 14; minute++) {
            int s = 5 - minute % 6;
            int before = x.of(s, 6);
            int all = x.now(2);
            x.go(1);
            due("11 whose turn is MINUTE " + minute, x.of(s, 6), before + 1);
            due("11 nobody else's in MINUTE " + minute, x.now(2), all + 1);
        }
    }

    // Terms 2: if there is one
    private static void nobodyInThePlace() {
        BoothFlash x = one(0, 20);
        x.queue(0, -1);
        due("11 nobody there", x.go(1), 0);
        due("11 nobody turns the stool", x.booth(0), 20);
        due("11 nobody pays", x.booth(3), 0);
        due("11 a MINUTE goes by", x.now(0), 1);
        x.go(1);
        due("11 the next one turns it", x.booth(0), 24);
    }

    // Terms 2: and its COINS are PRICE or more
    private static void coinsArePriceOrMore() {
        int[] coins = {4, 5, 6};
        int[] then = {4, 0, 1};
        for (int i = 0; i < 3; i++) {
            BoothFlash x = one(0, 50);
            x.change(0, 4, coins[i]);
            boolean pays = i > 0;
            x.go(1);
            due("11 COINS " + coins[i], x.of(0, 4), then[i]);
            due("11 TILL, COINS " + coins[i], x.booth(3), pays ? 5 : 0);
            due("11 TRIED, COINS " + coins[i], x.of(0, 6), pays ? 1 : 0);
            due("11 STOOL, COINS " + coins[i], x.booth(0), pays ? 24 : 20);
            due("11 MERRY, COINS " + coins[i], x.of(0, 3), pays ? 2 : 3);
            due("11 STILL, COINS " + coins[i], x.of(0, 2), 5);
        }
    }

    private static void priceNought() {
        BoothFlash x = one(0, 60);
        x.set(2, 0);
        x.change(0, 4, 0);
        due("11 PRICE 0, COINS 0", x.go(1), 1);
        due("11 COINS stay 0", x.of(0, 4), 0);
        due("11 TILL stays 0", x.booth(3), 0);
        due("11 TRIED", x.of(0, 6), 1);
    }

    private static void priceGreatest() {
        BoothFlash x = one(0, 60);
        x.set(2, 20);
        due("11 PRICE 20, COINS 20", x.go(1), 1);
        due("11 COINS are 0", x.of(0, 4), 0);
        due("11 TILL", x.booth(3), 20);
        due("11 then broke", x.go(1), 1);
        due("11 TRIED once", x.of(0, 6), 1);
        BoothFlash y = one(0, 60);
        y.set(2, 20);
        y.change(0, 4, 19);
        due("11 PRICE 20, COINS 19", y.go(1), 0);
        due("11 COINS stay", y.of(0, 4), 19);
    }

    // Terms 1: TILL (0 to 99999, at most)
    private static void tillAtMost() {
        int[] till = {99993, 99994, 99995, 99999};
        int[] then = {99998, 99999, 99999, 99999};
        for (int i = 0; i < 4; i++) {
            BoothFlash x = one(0, 60);
            x.set(3, till[i]);
            x.go(1);
            due("11 TILL " + till[i], x.booth(3), then[i]);
            due("11 COINS are less all the same", x.of(0, 4), 15);
            due("14 TILL " + till[i], x.later(3, 1), Math.min(99999, then[i] + 5));
            due("44 TILL " + till[i], x.count(4), then[i]);
        }
    }

    // Terms 2: TRIED 1 more (9999 at most)
    private static void triedAtMost() {
        int[] tried = {9997, 9998, 9999};
        int[] then = {9998, 9999, 9999};
        for (int i = 0; i < 3; i++) {
            BoothFlash x = one(0, 60);
            x.change(0, 6, tried[i]);
            due("13 TRIED " + tried[i], x.ahead(0, 6, 1), then[i]);
            x.go(1);
            due("11 TRIED " + tried[i], x.of(0, 6), then[i]);
            due("11 it is taken all the same", x.of(0, 5), 1);
        }
    }

    // Terms 2: STOOL comes nearer to 80 less TALL, by 4 at most
    private static void stoolByFourAtMost() {
        int[] away = {-60, -5, -4, -3, -1, 0, 1, 3, 4, 5, 60};
        for (int d : away) {
            for (int wanted = 0; wanted <= 60; wanted += 20) {
                int stool = wanted + d;
                if (stool < 0 || stool > 60) {
                    continue;
                }
                BoothFlash x = one(0, 80 - wanted);
                x.set(0, stool);
                x.go(1);
                int then = Math.abs(d) <= 4 ? wanted : stool - Integer.signum(d) * 4;
                due("11 STOOL " + stool + " to " + wanted, x.booth(0), then);
            }
        }
    }

    // Terms 2: (held within 0 to 60)
    private static void stoolHeldWithin() {
        int[] tall = {90, 81, 80, 79, 21, 20, 19, 0};
        int[] wanted = {0, 0, 0, 1, 59, 60, 60, 60};
        for (int i = 0; i < tall.length; i++) {
            BoothFlash x = one(0, tall[i]);
            x.set(0, wanted[i] < 30 ? 2 : 58);
            x.go(1);
            due("11 held, TALL " + tall[i], x.booth(0), wanted[i]);
            x.go(1);
            due("11 there it stays, TALL " + tall[i], x.booth(0), wanted[i]);
        }
    }

    private static void stoolTurnsAlsoWithFaults() {
        BoothFlash x = one(0, 50);
        x.set(1, 0);
        due("11 in the dark", x.go(1), 0);
        due("11 the stool turns", x.booth(0), 24);
        due("11 it pays", x.of(0, 4), 15);
    }

    // Terms 2: then FLASHES 0 to 3, all as it is then
    private static void flashesBehindTheTurn() {
        int[] tall = {53, 54, 66, 67};
        int[] taken = {0, 1, 1, 0};
        for (int i = 0; i < 4; i++) {
            BoothFlash x = one(0, tall[i]);
            due("11 flashes behind the turn, TALL " + tall[i], x.go(1), taken[i]);
        }
        BoothFlash y = one(0, 50);
        y.set(0, 34);
        due("11 OFF before, not behind the turn", y.faults(0, 0) & 1, 1);
        due("11 taken", y.go(1), 1);
    }

    private static void flashesBeforeTheNextMinute() {
        BoothFlash x = new BoothFlash();
        x.sitter(1, 60);
        x.queue(0, 0);
        x.change(0, 3, 4);
        x.change(0, 2, 0);
        due("11 CHILD SHUT at 0 in MINUTE 0, SMILES at the others", x.go(1), 0);
        BoothFlash y = new BoothFlash();
        y.sitter(1, 60);
        y.queue(0, 0);
        y.change(0, 3, 4);
        y.change(0, 2, 3);
        due("11 not SHUT at 0 in MINUTE 0, though in MINUTE 1", y.go(1), 1);
    }

    // Terms 2: if one of them at least has no FAULTS
    private static void oneFlashIsEnough() {
        BoothFlash none = one(1, 60);
        none.change(0, 3, 5);
        due("11 a CHILD that always SMILES", none.go(1), 0);
        BoothFlash first = one(1, 60);
        first.change(0, 3, 4);
        due("11 FLASH 0 alone", first.now(5), 1);
        due("11 FLASH 0 alone", first.go(1), 1);
        BoothFlash second = one(1, 60);
        second.change(0, 3, 3);
        second.change(0, 2, 0);
        due("11 FLASH 1 alone", second.faults(0, 1), 0);
        due("11 FLASH 1 alone", second.go(1), 1);
        BoothFlash third = one(6, 60);
        due("11 FLASHES 1 and 3", third.go(1), 1);
        BoothFlash all = one(4, 60);
        all.set(1, 3);
        due("11 all four", all.go(1), 1);
    }

    // Terms 2: TAKEN is 1 more
    private static void takenOnceAMinute() {
        BoothFlash x = one(4, 60);
        x.set(1, 3);
        x.set(2, 0);
        for (int n = 1; n <= 8; n++) {
            due("11 four good FLASHES are one TAKEN", x.go(1), n);
        }
    }

    // Terms 2: (999 at most)
    private static void takenAtMost() {
        int[] taken = {997, 998, 999};
        int[] then = {998, 999, 999};
        for (int i = 0; i < 3; i++) {
            BoothFlash x = one(0, 60);
            x.change(0, 5, taken[i]);
            due("13 TAKEN " + taken[i], x.ahead(0, 5, 1), then[i]);
            due("11 TAKEN " + taken[i], x.go(1), then[i]);
            due("11 STILL is more all the same", x.of(0, 2), 6);
            due("11 MERRY stays", x.of(0, 3), 3);
        }
    }

    // Terms 2: and STILL 1 more (9 at most)
    private static void stillAtMost() {
        int[] still = {0, 7, 8, 9};
        int[] then = {1, 8, 9, 9};
        for (int i = 0; i < 4; i++) {
            BoothFlash x = one(6, 60);
            x.change(0, 2, still[i]);
            due("13 STILL " + still[i], x.ahead(0, 2, 1), then[i]);
            x.go(1);
            due("11 STILL " + still[i], x.of(0, 2), then[i]);
        }
    }

    // Terms 2: else MERRY is 1 less (0 at least)
    private static void merryAtLeast() {
        int[] merry = {9, 2, 1, 0};
        int[] then = {8, 1, 0, 0};
        for (int i = 0; i < 4; i++) {
            BoothFlash x = one(6, 60);
            x.set(1, 1);
            x.change(0, 3, merry[i]);
            due("13 MERRY " + merry[i], x.ahead(0, 3, 1), then[i]);
            x.go(1);
            due("11 MERRY " + merry[i], x.of(0, 3), then[i]);
            due("11 STILL stays", x.of(0, 2), 5);
            due("11 not taken", x.of(0, 5), 0);
        }
    }

    private static void merryStaysWithPicture() {
        BoothFlash x = one(6, 60);
        x.change(0, 3, 9);
        x.go(1);
        due("11 MERRY stays", x.of(0, 3), 9);
    }

    // Terms 2: if it is a multiple of 6 then, COINS of all are 3 more
    private static void payAtMultiplesOfSix() {
        BoothFlash x = Edge.eight();
        for (int p = 0; p < 6; p++) {
            x.queue(p, -1);
        }
        for (int minute = x.now(0) + 1; minute <= 19; minute++) {
            int before = x.of(7, 4);
            int all = x.now(3);
            x.go(1);
            due("11 pay in MINUTE " + minute, x.of(7, 4) - before, minute % 6 == 0 ? 3 : 0);
            due("11 pay of all in MINUTE " + minute, x.now(3) - all, minute % 6 == 0 ? 24 : 0);
        }
        BoothFlash y = one(0, 60);
        due("11 none in MINUTE 0", y.of(0, 4), 20);
    }

    // Terms 2: (999 at most)
    private static void payAtMost() {
        int[] coins = {0, 995, 996, 997, 998, 999};
        int[] then = {3, 998, 999, 999, 999, 999};
        for (int i = 0; i < coins.length; i++) {
            BoothFlash x = new BoothFlash();
            x.sitter(0, 60);
            x.change(0, 4, coins[i]);
            due("13 COINS " + coins[i], x.ahead(0, 4, 6), then[i]);
            x.go(6);
            due("11 COINS " + coins[i], x.of(0, 4), then[i]);
        }
    }

    private static void payComesLast() {
        BoothFlash x = new BoothFlash();
        x.sitter(0, 60);
        x.queue(5, 0);
        x.change(0, 4, 4);
        due("11 too poor before the pay", x.go(6), 0);
        due("11 paid then", x.of(0, 4), 7);
        BoothFlash y = new BoothFlash();
        y.sitter(0, 60);
        y.queue(5, 0);
        y.change(0, 4, 999);
        y.go(6);
        due("11 it pays first, then it is paid", y.of(0, 4), 997);
    }

    // Terms 2: MINUTE is one more (99999 at most)
    private static void minuteAtMost() {
        BoothFlash x = inMinute(one(0, 60), 99998);
        due("11 before the last", x.now(0), 99998);
        due("11 go to the last", x.go(1) >= 0 ? 1 : 0, 1);
        due("11 the last", x.now(0), 99999);
        due("12 its place", x.now(4), 0);
        x.change(0, 4, 999);
        x.set(2, 0);
        x.change(0, 6, 0);
        x.queue(0, -1);
        x.queue(4, -1);
        due("13 it is held: place 3 again and again", x.ahead(0, 6, 200), 200);
        x.queue(3, -1);
        due("13 it is held: no other place", x.ahead(0, 6, 200), 0);
        x.change(0, 4, 0);
        due("13 it is held: no multiple of 6", x.ahead(0, 4, 200), 0);
    }

    // Promise 11: n MINUTES (1 to 100). BEYOND.
    private static void goFromOneToHundred() {
        EDGE.within("11 n", Edge::three, 1, 100, BoothFlash::go);
        EDGE.within("11 n without SITTERS", Edge::none, 1, 100, BoothFlash::go);
        BoothFlash x = new BoothFlash();
        x.go(1);
        due("11 the least", x.now(0), 1);
        x.go(100);
        due("11 the greatest", x.now(0), 101);
    }

    // Promise 11: TAKEN of all together then
    private static void goTellsTaken() {
        BoothFlash x = new BoothFlash();
        for (int s = 0; s < 8; s++) {
            x.sitter(0, 60);
            x.change(s, 5, 999);
        }
        due("11 eight with the greatest", x.go(1), 8 * 999);
        due("12 eight with the greatest", x.now(1), 8 * 999);
        due("44 eight with the greatest", x.count(2), 8 * 999);
        due("28 eight with the greatest", x.lamps(1), 8 * 999);
    }

    private static void goWithoutSitters() {
        BoothFlash x = new BoothFlash();
        due("11 none", x.go(100), 0);
        due("11 TILL", x.booth(3), 0);
        due("11 STOOL", x.booth(0), 20);
        due("28 none", x.lamps(20), 0);
        due("28 TILL", x.booth(3), 0);
        due("28 STOOL", x.booth(0), 20);
        due("28 MINUTE", x.now(0), 120);
    }

    // Promise 11: STATE: MINUTE would be above 99999
    private static void goStateBeyondTheLastMinute() {
        BoothFlash x = inMinute(one(0, 60), 99900);
        due("11 MINUTE would be 100000", x.go(100), STATE);
        due("11 nothing changes", x.now(0), 99900);
        due("11 STATE is counted", x.status(4), 1);
        due("11 BEYOND comes first", x.go(101), BEYOND);
        due("11 BEYOND comes first", x.go(0), BEYOND);
        due("11 STATE is counted once", x.status(4), 1);
        due("11 MINUTE is 99999", x.go(99) >= 0 ? 1 : 0, 1);
        due("11 the last MINUTE", x.count(0), 99999);
        due("11 none more", x.go(1), STATE);
        due("11 the last MINUTE", x.count(0), 99999);
    }

    // Promise 28: STATE: MINUTE would be above 99999
    private static void lampsStateBeyondTheLastMinute() {
        BoothFlash x = inMinute(one(0, 60), 99980);
        due("28 MINUTE would be 100000", x.lamps(20), STATE);
        due("28 z stays", x.count(6), 1);
        due("28 LIGHT stays", x.booth(1), 5);
        due("28 nothing changes", x.now(0), 99980);
        due("28 BEYOND comes first", x.lamps(21), BEYOND);
        due("28 BEYOND comes first", x.lamps(0), BEYOND);
        due("28 MINUTE is 99999", x.lamps(19) >= 0 ? 1 : 0, 1);
        due("28 the last MINUTE", x.now(0), 99999);
        due("28 none more", x.lamps(1), STATE);
        due("28 counted", x.status(4), 2);
    }

    // Promise 12: what 0 to 6. BEYOND.
    private static void nowHasSevenWhats() {
        EDGE.within("12 what", Edge::three, 0, 6, BoothFlash::now);
        EDGE.within("12 what without SITTERS", Edge::none, 0, 6, BoothFlash::now);
        EDGE.asked("12 asks", Edge::three, 3, x -> x.now(0));
    }

    // Promise 12: (-1: nobody), (0 without SITTERS)
    private static void nowWithoutSitters() {
        BoothFlash x = new BoothFlash();
        x.set(1, 0);
        int[] want = {0, 0, 0, 0, -1, 0, 0};
        for (int what = 0; what <= 6; what++) {
            due("12 without SITTERS, dark " + what, x.now(what), want[what]);
        }
        x.sitter(0, 60);
        due("12 with one, dark", x.now(6), 16);
        due("12 with one, next is nobody", x.now(4), -1);
    }

    private static void nowWithEight() {
        BoothFlash x = new BoothFlash();
        for (int s = 0; s < 8; s++) {
            x.sitter(4, 60);
            x.change(s, 4, 999);
            x.change(s, 6, 9999);
        }
        x.set(1, 3);
        due("12 all eight clear", x.now(5), 255);
        due("12 TRIED", x.now(2), 8 * 9999);
        due("44 TRIED", x.count(3), 8 * 9999);
        due("12 COINS", x.now(3), 8 * 999);
        for (int s = 0; s < 7; s++) {
            x.change(s, 1, 0);
        }
        due("12 the last alone", x.now(5), 128);
        x.change(7, 1, 0);
        due("12 none", x.now(5), 0);
        due("12 all OFF", x.now(6), 1);
        x.change(7, 1, 60);
        due("12 all but one OFF", x.now(6), 0);
    }

    // Promise 12: who is next; Terms 1: one for MINUTE modulo 6
    private static void nowNextWraps() {
        BoothFlash x = Edge.eight();
        for (int p = 0; p < 6; p++) {
            x.queue(p, p + 2);
        }
        for (int i = 0; i < 14; i++) {
            due("12 next in MINUTE " + x.now(0), x.now(4), x.now(0) % 6 + 2);
            x.go(1);
        }
        x.queue(x.now(0) % 6, -1);
        due("12 next is nobody", x.now(4), -1);
    }

    // Promise 12: (STOOL as it is)
    private static void nowClearAsStoolIs() {
        BoothFlash x = one(0, 60);
        int[] stool = {17, 18, 22, 23};
        int[] want = {0, 1, 1, 0};
        for (int i = 0; i < 4; i++) {
            x.set(0, stool[i]);
            due("12 clear, STOOL " + stool[i], x.now(5), want[i]);
        }
        x.change(0, 4, 0);
        x.set(0, 20);
        due("12 clear, though it can't pay", x.now(5), 1);
        BoothFlash y = one(1, 60);
        y.change(0, 3, 4);
        due("12 clear by FLASH 0 alone", y.now(5), 1);
        y.change(0, 3, 5);
        due("12 not clear", y.now(5), 0);
    }

    // Promise 12: FAULTS that all four FLASHES of all SITTERS have now
    private static void nowCommonOfAllFour() {
        BoothFlash x = one(0, 60);
        x.change(0, 3, 6);
        due("12 all four SMILE", x.now(6), 4);
        x.change(0, 3, 5);
        due("12 FLASH 3 alone SMILES", x.now(6), 0);
        BoothFlash y = one(5, 60);
        y.change(0, 3, 9);
        due("12 all but FLASH 0 SMILE", y.now(6), 0);
        BoothFlash c = one(1, 60);
        c.change(0, 3, 5);
        due("12 all four of a CHILD SMILE", c.now(6), 4);
        c.change(0, 3, 4);
        due("12 all but FLASH 0 of a CHILD SMILE", c.now(6), 0);
        BoothFlash z = one(1, 60);
        z.set(1, 8);
        due("12 all four are SHUT", z.now(6), 2);
        z.sitter(6, 60);
        due("12 two of a BABY are", z.now(6), 0);
        z.set(1, 1);
        due("12 LIGHT", z.now(6), 16);
        BoothFlash g = one(2, 0);
        g.set(1, 9);
        g.change(0, 3, 9);
        due("12 OFF, SMILES, SHINES", g.now(6), 13);
    }

    // Promise 28: n times (1 to 20). BEYOND.
    private static void lampsFromOneToTwenty() {
        EDGE.within("28 n", Edge::three, 1, 20, BoothFlash::lamps);
        EDGE.within("28 n without SITTERS", Edge::none, 1, 20, BoothFlash::lamps);
        EDGE.within("28 n with eight", Edge::eight, 1, 20, BoothFlash::lamps);
    }

    // Promise 28: two draws each
    private static void lampsTwoDrawsEach() {
        for (int n = 1; n <= 20; n++) {
            BoothFlash x = new BoothFlash();
            x.lamps(n);
            int z = 1;
            int light = -1;
            for (int i = 0; i < 2 * n; i++) {
                z = z * 1103515245 + 12345;
                light = i % 2 == 0 ? (z >>> 8) % 10 : light;
            }
            due("28 z behind " + n, x.count(6), z);
            due("28 LIGHT behind " + n, x.booth(1), light);
            due("28 MINUTE behind " + n, x.now(0), n);
        }
    }

    /** A z whose second draw has this rest by 8. */
    private static int seedFor(int rest) {
        for (int v = 0; v < 10000; v++) {
            int z = (v * 1103515245 + 12345) * 1103515245 + 12345;
            if ((z >>> 8) % 8 == rest) {
                return v;
            }
        }
        return -1;
    }

    // Promise 28: the SITTER of the second one's rest by 8, if there is one
    private static void lampsSitterNotThere() {
        for (int many = 0; many <= 7; many++) {
            BoothFlash x = new BoothFlash();
            for (int s = 0; s < many; s++) {
                x.sitter(0, 60);
            }
            x.queue(0, many - 1);
            x.seed(seedFor(many));
            x.lamps(1);
            due("28 not there yet: " + many, x.place(0), many - 1);
            BoothFlash y = new BoothFlash();
            for (int s = 0; s <= many; s++) {
                y.sitter(0, 60);
            }
            y.seed(seedFor(many));
            y.lamps(1);
            due("28 the last one there: " + many, y.place(0), many);
            due("28 its MINUTE: " + many, y.of(many, 6), 1);
        }
    }

    // Promise 28: is in THE QUEUE's next place; then a MINUTE
    private static void lampsSitterSits() {
        for (int minute = 0; minute <= 12; minute++) {
            BoothFlash x = Edge.eight();
            for (int p = 0; p < 6; p++) {
                x.queue(p, 6);
            }
            x.go(6 + minute);
            x.set(2, 0);
            int p = x.now(0) % 6;
            int tried = x.of(3, 6);
            x.seed(seedFor(3));
            x.lamps(1);
            for (int q = 0; q < 6; q++) {
                due("28 place " + q + " of next " + p, x.place(q), q == p ? 3 : 6);
            }
            due("28 its MINUTE, next " + p, x.of(3, 6), tried + 1);
        }
        BoothFlash y = new BoothFlash();
        for (int s = 0; s < 8; s++) {
            y.sitter(0, 60);
        }
        y.queue(0, 3);
        y.seed(seedFor(3));
        y.lamps(1);
        due("28 who is there already", y.place(0), 3);
    }

    // Terms 2: z * 1103515245 + 12345 (an int)
    private static void drawsWrap() {
        int[] seeds = {0, 1, 2, -1, Edge.GREATEST, Edge.LEAST, 1 << 30, 123456789, -987654321};
        for (int seed : seeds) {
            BoothFlash x = new BoothFlash();
            x.seed(seed);
            x.lamps(1);
            long first = (seed * 1103515245L + 12345) & 0xffffffffL;
            long second = (first * 1103515245L + 12345) & 0xffffffffL;
            due("28 z of seed " + seed, x.count(6), (int) second);
            due("30 z of seed " + seed, x.seed(0), (int) second);
            due("28 LIGHT of seed " + seed, x.booth(1), (first >> 8) % 10);
        }
    }

    // Terms 2: gives z >>> 8
    private static void drawsWithoutSign() {
        int below = 0;
        for (int seed = 0; seed < 40; seed++) {
            BoothFlash x = new BoothFlash();
            for (int s = 0; s < 8; s++) {
                x.sitter(0, 60);
            }
            x.seed(seed);
            x.lamps(1);
            int first = seed * 1103515245 + 12345;
            int second = first * 1103515245 + 12345;
            due("28 LIGHT of " + seed, x.booth(1), ((first & 0xffffffffL) >> 8) % 10);
            due("28 who, of " + seed, x.place(0), ((second & 0xffffffffL) >> 8) % 8);
            below += first < 0 ? 1 : 0;
        }
        CHECK.isTrue("28 some z are below 0", below > 5);
    }

    // Terms: z may be any int: that is no finding
    private static void seedAnyInt() {
        int[] any = {Edge.LEAST, Edge.GREATEST, 0, -1, -1000000, -1000001, -1000002, -1000003, -1000004,
            -1000005, -1000006, -1000007, -1000008};
        BoothFlash x = new BoothFlash();
        int was = 1;
        for (int v : any) {
            due("30 was", x.seed(v), was);
            due("44 z", x.count(6), v);
            was = v;
        }
        due("30 no findings", x.status(-1), 0);
        for (int which = 0; which <= 6; which++) {
            due("30 no findings " + which, x.status(which), 0);
        }
    }
}
