/** Promises 41 to 45, images, what is counted, and the findings: each boundary has its own test. */
public final class ImageEdgesTest {
    private static final Check CHECK = new Check("ImageEdgesTest");
    private static final Edge EDGE = new Edge(CHECK);

    public static void main(String[] args) {
        undoNothingKept();
        undoOfEmpty();
        undoOfFull();
        undoMoreAndFewerSitters();
        undoStays();
        undoLatest();
        undoTakesNoFindingsBack();
        undoLeavesTapeAndSheets();
        undoBringsAllElseBack();
        imageIsApart();
        tearSomethingAndNothing();
        tearNothingElse();
        countWhats();
        countGreatest();
        countLeast();
        statusBounds();
        statusOther();
        statusAtFirst();
        statusEach();
        statusAll();
        findingsByNumber();
        findingsInTexts();
        answersThatAreNone();
        objectsAreApart();
        manyCalls();
        CHECK.end();
    }

    private static void due(String call, long got, long want) {
        CHECK.due(call, got, want);
    }

    // Promise 42: NONE: nothing is kept
    private static void undoNothingKept() {
        EDGE.refused("42 NONE", BoothFlash::new, -1000004, BoothFlash::undo);
        EDGE.refused("42 NONE behind tear", () -> {
            BoothFlash x = Edge.three();
            x.tear();
            return x;
        }, -1000004, BoothFlash::undo);
    }

    private static void undoOfEmpty() {
        BoothFlash x = new BoothFlash();
        due("41 an empty one", x.image(), 1);
        for (int s = 0; s < 8; s++) {
            x.sitter(0, 60);
        }
        x.queue(0, 7);
        x.hold(9, 7);
        x.go(9);
        due("42 MINUTE 0", x.undo(), 0);
        due("42 no SITTERS", x.count(1), 0);
        due("42 nobody", x.place(0), -1);
        due("42 nothing", x.count(7), 0);
        due("42 no SITTER 7", x.of(7, 0), -1000001);
        due("42 TILL", x.booth(3), 0);
        due("42 the first again", x.sitter(1, 1), 0);
    }

    private static void undoOfFull() {
        BoothFlash x = Edge.eight();
        due("41 a full one", x.image(), 1);
        BoothFlash y = Edge.eight();
        y.image();
        y.go(100);
        y.lamps(20);
        y.set(2, 20);
        for (int s = 0; s < 8; s++) {
            y.change(s, 0, 6 - y.of(s, 0));
            y.change(s, 1, 1);
            y.hold(s, -1);
        }
        due("42 a full one", y.undo(), 3);
        due("6 it is full", y.sitter(0, 60), -1000002);
        CHECK.isTrue("42 as it was", java.util.Arrays.equals(Edge.tell(x), Edge.tell(y)));
    }

    private static void undoMoreAndFewerSitters() {
        BoothFlash x = new BoothFlash();
        for (int s = 0; s < 5; s++) {
            x.sitter(s, 10 * s);
        }
        x.image();
        x.sitter(6, 90);
        due("42", x.undo(), 0);
        due("42 five again", x.count(1), 5);
        due("42 the 6th is gone", x.of(5, 0), -1000001);
        due("6 a new 6th", x.sitter(2, 77), 5);
        due("7 a new 6th", x.of(5, 1), 77);
        due("7 the 5th", x.of(4, 1), 40);
    }

    // Promise 42: (which stays)
    private static void undoStays() {
        BoothFlash x = new BoothFlash();
        x.go(7);
        x.image();
        for (int i = 1; i <= 5; i++) {
            x.go(i);
            due("42 it stays " + i, x.undo(), 7);
        }
        due("42 at once again", x.undo(), 7);
        x.set(0, 1);
        x.undo();
        due("42 it stays as it was kept", x.booth(0), 20);
    }

    // Promise 42: what was kept latest
    private static void undoLatest() {
        BoothFlash x = new BoothFlash();
        for (int i = 1; i <= 4; i++) {
            x.go(10);
            due("41 once more", x.image(), 1);
        }
        x.go(1);
        due("42 the latest", x.undo(), 40);
        due("42 again the latest", x.undo(), 40);
        due("43 all of them", x.tear(), 1);
        due("42 none earlier is kept", x.undo(), -1000004);
    }

    // Promise 45: (undo() takes none back)
    private static void undoTakesNoFindingsBack() {
        BoothFlash x = new BoothFlash();
        x.image();
        x.booth(-1);
        x.all();
        x.sheet(0, 8, -1);
        due("42", x.undo(), 0);
        due("45 none taken back", x.status(-1), 3);
        due("45 BEYOND", x.status(0), 1);
        due("45 STATE", x.status(4), 1);
        due("45 SIZE", x.status(6), 1);
        x.image();
        x.undo();
        x.tear();
        due("45 none taken back", x.status(-1), 3);
    }

    // Promise 41: All but THE TAPE and SHEETS
    private static void undoLeavesTapeAndSheets() {
        BoothFlash x = Edge.three();
        x.wipe();
        x.image();
        Check.feed(x, "light 8");
        x.sheet(0, 8, 2);
        x.sheet(1, 0, 0);
        x.sheet(3, 32, 1);
        x.write(3, 0, 3);
        x.undo();
        due("42 THE TAPE stays", x.count(5), 7);
        due("42 THE TAPE stays", x.text(), 1);
        due("42 SHEET 0 stays", x.write(0, 2, 1), -1000001);
        due("42 SHEET 1 stays", x.judge(1), -1000006);
        x.change(0, 5, 3);
        due("42 SHEET 3 stays", x.judge(3), 0);
        BoothFlash y = new BoothFlash();
        y.feed(0, 4);
        y.sheet(0, 8, 40);
        y.image();
        y.wipe();
        y.sheet(0, 0, 0);
        y.undo();
        due("42 THE TAPE isn't kept", y.count(5), 0);
        due("42 SHEETS aren't kept", y.judge(0), -1000006);
    }

    private static void undoBringsAllElseBack() {
        Edge.Maker[] makers = {Edge::none, Edge::three, Edge::eight};
        for (Edge.Maker maker : makers) {
            BoothFlash x = maker.make();
            x.image();
            BoothFlash y = maker.make();
            y.image();
            y.go(50);
            y.lamps(20);
            for (int what = 0; what < 4; what++) {
                y.set(what, 0);
            }
            for (int p = 0; p < 6; p++) {
                y.queue(p, -1);
            }
            for (int spot = 0; spot < 10; spot++) {
                y.hold(spot, -1);
            }
            for (int s = 0; s < 8; s++) {
                for (int what = 0; what <= 6; what++) {
                    y.change(s, what, 1);
                }
                y.sitter(0, 0);
            }
            y.seed(5);
            due("42 MINUTE", y.undo(), x.now(0));
            CHECK.isTrue("42 all else is back", java.util.Arrays.equals(Edge.tell(x), Edge.tell(y)));
        }
    }

    // What is kept and what is now are two
    private static void imageIsApart() {
        BoothFlash x = Edge.three();
        x.image();
        x.change(0, 1, 5);
        x.queue(0, 2);
        x.hold(0, 0);
        x.undo();
        due("42 TALL", x.of(0, 1), 57);
        x.change(0, 1, 6);
        x.queue(0, 1);
        x.hold(0, 1);
        x.undo();
        due("42 TALL again", x.of(0, 1), 57);
        due("42 place again", x.place(0), 0);
        due("42 SPOT again", x.as(0, 0), 2);
        x.ahead(0, 4, 200);
        x.kindFor(0, 60);
        x.change(0, 1, 7);
        x.undo();
        due("42 what will be is no image", x.of(0, 1), 57);
        Check.read(x, ";old;dark");
        x.go(1);
        due("42 a FAULT is no image", x.undo(), 3);
    }

    // Promise 43: 1 if something was, else 0
    private static void tearSomethingAndNothing() {
        BoothFlash x = new BoothFlash();
        due("43 nothing yet", x.tear(), 0);
        x.image();
        due("43 something", x.tear(), 1);
        due("43 nothing then", x.tear(), 0);
        x.image();
        x.image();
        due("43 kept twice", x.tear(), 1);
        due("43 nothing then", x.tear(), 0);
        x.image();
        x.undo();
        due("43 it stayed", x.tear(), 1);
        due("43 no findings", x.status(-1), 0);
        EDGE.refused("42 torn", () -> {
            BoothFlash y = new BoothFlash();
            y.image();
            y.tear();
            return y;
        }, -1000004, BoothFlash::undo);
    }

    private static void tearNothingElse() {
        BoothFlash x = Edge.eight();
        BoothFlash y = Edge.eight();
        x.tear();
        for (int s = 0; s < 8; s++) {
            for (int what = 0; what <= 8; what++) {
                due("43 nothing else", x.of(s, what), y.of(s, what));
            }
        }
        for (int what = 0; what <= 7; what++) {
            due("43 nothing else", x.count(what), y.count(what));
        }
    }

    // Promise 44: 0 .. 7. BEYOND: another what.
    private static void countWhats() {
        EDGE.within("44 what", Edge::three, 0, 7, BoothFlash::count);
        EDGE.within("44 what of a new one", BoothFlash::new, 0, 7, BoothFlash::count);
        for (int what = 0; what <= 7; what++) {
            int w = what;
            EDGE.asked("44 asks", Edge::eight, Edge.eight().count(w), x -> x.count(w));
        }
    }

    private static void countGreatest() {
        BoothFlash x = Edge.eight();
        for (int s = 0; s < 8; s++) {
            x.change(s, 5, 999);
            x.change(s, 6, 9999);
        }
        for (int spot = 0; spot < 10; spot++) {
            x.hold(spot, 0);
        }
        x.set(3, 99999);
        for (int i = 0; i < 120; i++) {
            x.feed(0, 1);
        }
        x.seed(Edge.GREATEST);
        int[] want = {3, 8, 7992, 79992, 99999, 120, Edge.GREATEST, 10};
        for (int what = 0; what <= 7; what++) {
            due("44 the greatest " + what, x.count(what), want[what]);
        }
        due("44 as in now()", x.now(1), 7992);
        due("44 as in now()", x.now(2), 79992);
    }

    private static void countLeast() {
        BoothFlash x = new BoothFlash();
        x.seed(Edge.LEAST);
        int[] want = {0, 0, 0, 0, 0, 0, Edge.LEAST, 0};
        for (int what = 0; what <= 7; what++) {
            due("44 the least " + what, x.count(what), want[what]);
        }
    }

    // Promise 45: which -1: all, 0 to 6. BEYOND.
    private static void statusBounds() {
        EDGE.within("45 which", Edge::three, -1, 6, BoothFlash::status);
        EDGE.within("45 which of a new one", BoothFlash::new, -1, 6, BoothFlash::status);
    }

    // Promise 45: BEYOND (counted from then on): another one
    private static void statusOther() {
        BoothFlash x = new BoothFlash();
        int[] others = {-2, 7, Edge.LEAST, Edge.GREATEST};
        for (int i = 0; i < 4; i++) {
            due("45 another", x.status(others[i]), -1000001);
            due("45 counted from then on", x.status(0), i + 1);
            due("45 counted from then on", x.status(-1), i + 1);
        }
    }

    private static void statusAtFirst() {
        BoothFlash x = new BoothFlash();
        for (int which = -1; which <= 6; which++) {
            due("45 at first", x.status(which), 0);
        }
        due("45 asking is no finding", x.status(-1), 0);
    }

    /** One call on a new object for each finding, BEYOND first. */
    private static long find(BoothFlash x, int which) {
        switch (which) {
            case 0: return x.go(0);
            case 1: return x.feed(0, 4);
            case 2: return x.as(0, 6);
            case 3: return x.tall(0, 0);
            case 4: return x.all();
            case 5: return x.as(1, 0);
            default: return x.sheet(0, 8, -1);
        }
    }

    private static BoothFlash findable() {
        BoothFlash x = new BoothFlash();
        for (int i = 0; i < 30; i++) {
            x.feed(0, 4);
        }
        return x;
    }

    /** A SITTER is there that FITS nothing told and is no BABY (all() would find no STATE then). */
    private static void seatOne(BoothFlash x) {
        x.sitter(0, 60);
        x.hold(0, 0);
        Check.fill(x, 0, 99);
    }

    // Terms: LOW BEYOND, LOW - 1 FULL, LOW - 2 KIND, LOW - 3 NONE, LOW - 4 STATE, LOW - 5 MISSING, LOW - 6 SIZE
    private static void findingsByNumber() {
        for (int which = 0; which <= 6; which++) {
            BoothFlash x = findable();
            if (which != 4) {
                seatOne(x);
            }
            due("finding " + which, find(x, which), -1000001 - which);
            for (int other = 0; other <= 6; other++) {
                due("45 only its own " + other, x.status(other), other == which ? 1 : 0);
            }
        }
    }

    // Promise 45: How many acts answered a finding ever
    private static void statusEach() {
        BoothFlash x = findable();
        for (int i = 0; i < 4; i++) {
            find(x, 4);
        }
        seatOne(x);
        for (int which = 0; which <= 6; which++) {
            for (int i = 0; i <= which && which != 4; i++) {
                find(x, which);
            }
        }
        int[] want = {1, 2, 3, 4, 4, 6, 7};
        for (int which = 0; which <= 6; which++) {
            due("45 each " + which, x.status(which), want[which]);
        }
        due("45 all", x.status(-1), 27);
    }

    private static void statusAll() {
        BoothFlash x = new BoothFlash();
        for (int i = 1; i <= 150; i++) {
            x.booth(4);
            due("45 all " + i, x.status(-1), i);
            due("45 BEYOND " + i, x.status(0), i);
        }
    }

    // Promise 33: -1 less the FAULT (.. no finding)
    private static void findingsInTexts() {
        BoothFlash x = new BoothFlash();
        for (int i = 0; i < 20; i++) {
            x.text();
        }
        due("45 FAULTS are no findings", x.status(-1), 0);
    }

    // What looks like nothing is no finding
    private static void answersThatAreNone() {
        BoothFlash x = new BoothFlash();
        x.place(0);
        x.queue(0, -1);
        x.now(4);
        x.wipe();
        x.tear();
        x.load(3);
        due("45 MISSING alone", x.status(-1), 1);
        x.sheet(3, 0, 40);
        x.sheet(3, 8, 0);
        x.load(3);
        x.judge(3);
        x.sitter(0, 60);
        x.fits(3, 0);
        x.odds(0, 3, 18, 0);
        x.priceFor(0);
        due("45 no more", x.status(-1), 1);
    }

    private static void objectsAreApart() {
        BoothFlash x = Edge.eight();
        BoothFlash y = new BoothFlash();
        x.go(10);
        x.booth(9);
        x.image();
        due("1 another's STOOL", y.booth(0), 20);
        due("1 another's SITTERS", y.count(1), 0);
        due("1 another's MINUTE", y.now(0), 0);
        due("1 another's findings", y.status(-1), 0);
        due("1 another's image", y.tear(), 0);
        due("1 another's TAPE", y.wipe(), 0);
        due("1 another's SHEETS", y.load(0), -1000006);
        due("1 another's z", y.seed(1), 1);
    }

    // An object is used for at most 512 calls: the dearest ones all the while
    private static void manyCalls() {
        BoothFlash x = Edge.eight();
        int away = x.away(0, 999, 20);
        int all = x.all();
        for (int i = 0; i < 200; i++) {
            due("24 the same again", x.away(0, 999, 20), away);
            due("17 the same again", x.all(), all);
        }
        due("45 counted each time", x.status(3), 201 + (all < 0 ? 201 : 0));
    }
}
