/** Promises 34 to 40, SPOTS and SHEETS: each sentence that names a boundary has its own test. */
public final class SheetEdgesTest {
    private static final int BEYOND = -1000001;
    private static final int KIND = -1000003;
    private static final int MISSING = -1000006;
    private static final int SIZE = -1000007;
    private static final int[] BITS = {8, 16, 32};

    private static final Check CHECK = new Check("SheetEdgesTest");
    private static final Edge EDGE = new Edge(CHECK);

    public static void main(String[] args) {
        holdSpots();
        holdSittersOrNothing();
        holdAgain();
        asBounds();
        asMissing();
        asMissingBeforeKind();
        asKindOrUnder();
        asTheKindThatItIsNow();
        spotsCounted();
        sheetNumbers();
        sheetOtherBits();
        sheetSize();
        sheetOrderOfFindings();
        sheetMissing();
        sheetAllNoughts();
        sheetLessThanBefore();
        writeBounds();
        writeMissingFirst();
        writeOnNone();
        writeLowestBits();
        writeSign();
        copySheets();
        copyMissing();
        copyKind();
        copyOrderOfFindings();
        copyNotSoMany();
        copyBelowNought();
        copyWraps();
        copyNone();
        copyAll();
        copyWithin();
        copyKeepsTheRest();
        loadBounds();
        loadSixPlaces();
        loadEndsAtTheFirst();
        loadNobody();
        loadByBits();
        judgeBounds();
        judgeNoneAndForty();
        judgeFirst();
        judgeSitterWithout();
        judgeGreatest();
        CHECK.end();
    }

    private static void due(String call, long got, long want) {
        CHECK.due(call, got, want);
    }

    private static BoothFlash sitters(int many) {
        BoothFlash x = new BoothFlash();
        for (int s = 0; s < many; s++) {
            x.sitter(0, 60);
        }
        return x;
    }

    /** All numbers of a sheet are these (0 to 999; as many as there are SITTERS, or fewer). */
    private static void holds(String label, BoothFlash x, int sheet, int... want) {
        for (int i = 0; i < want.length; i++) {
            x.change(i, 5, want[i]);
        }
        due(label, x.judge(sheet), 0);
    }

    /** The first eight of more numbers are these: the first that isn't so is the 9th, of no SITTER. */
    private static void begins(String label, BoothFlash x, int sheet, int... want) {
        for (int i = 0; i < 8; i++) {
            x.change(i, 5, want[i]);
        }
        due(label, x.judge(sheet), 9);
    }

    // Terms 3: SPOTS 0 to 9
    private static void holdSpots() {
        EDGE.within("34 spot", Edge::three, 0, 9, (x, spot) -> x.hold(spot, 0));
        EDGE.within("34 spot of nothing", Edge::none, 0, 9, (x, spot) -> x.hold(spot, -1));
        BoothFlash x = sitters(8);
        for (int spot = 0; spot < 10; spot++) {
            due("34 spot " + spot, x.hold(spot, spot % 8), 1);
        }
        for (int spot = 0; spot < 10; spot++) {
            due("35 each its own " + spot, x.as(spot, 0), spot % 8);
        }
    }

    // Promise 34: a SITTER, or nothing (-1). BEYOND.
    private static void holdSittersOrNothing() {
        EDGE.within("34 sitter of none", Edge::none, -1, -1, (x, s) -> x.hold(0, s));
        EDGE.within("34 sitter of three", Edge::three, -1, 2, (x, s) -> x.hold(0, s));
        EDGE.within("34 sitter of eight", Edge::eight, -1, 7, (x, s) -> x.hold(9, s));
    }

    private static void holdAgain() {
        BoothFlash x = sitters(2);
        due("34 nothing in nothing", x.hold(4, -1), 1);
        due("34", x.hold(4, 1), 1);
        due("34 the same", x.hold(4, 1), 1);
        due("34 another", x.hold(4, 0), 1);
        due("35 another", x.as(4, 0), 0);
        due("34 one in two", x.hold(5, 0), 1);
        due("34 nothing", x.hold(4, -1), 1);
        due("35 nothing", x.as(4, 0), MISSING);
        due("35 still in the other", x.as(5, 0), 0);
    }

    // Promise 35: (0 to 6). BEYOND.
    private static void asBounds() {
        EDGE.within("35 spot", Edge::eight, 0, 9, (x, spot) -> x.as(spot, 0));
        EDGE.within("35 kind", Edge::three, 0, 6, (x, kind) -> x.as(9, kind));
        EDGE.within("35 kind of nothing", Edge::three, 0, 6, (x, kind) -> x.as(5, kind));
        EDGE.refused("35 both", Edge::none, BEYOND, x -> x.as(10, 7));
        EDGE.asked("35 asks", Edge::eight, 7, x -> x.as(0, 0));
    }

    // Promise 35: MISSING: it holds nothing
    private static void asMissing() {
        for (int spot = 1; spot < 9; spot++) {
            int s = spot;
            EDGE.refused("35 nothing in " + s, Edge::three, MISSING, x -> x.as(s, 0));
        }
        EDGE.refused("35 nothing without SITTERS", Edge::none, MISSING, x -> x.as(0, 0));
    }

    // Promise 35: BEYOND. MISSING. KIND.
    private static void asMissingBeforeKind() {
        for (int kind = 0; kind <= 6; kind++) {
            int k = kind;
            EDGE.refused("35 nothing as " + k, Edge::three, MISSING, x -> x.as(5, k));
        }
        EDGE.refused("35 a BABY as a TWIN", Edge::three, KIND, x -> x.as(0, 5));
        EDGE.refused("35 a SITTER as a CHILD", Edge::three, KIND, x -> x.as(9, 1));
        EDGE.refused("35 a SITTER as a BABY", Edge::three, KIND, x -> x.as(9, 6));
    }

    // Promise 35: it isn't of that kind, nor of one under it
    private static void asKindOrUnder() {
        String[] under = {"1111111", "0100001", "0011100", "0001100", "0000100", "0000010", "0000001"};
        for (int kind = 0; kind <= 6; kind++) {
            BoothFlash x = new BoothFlash();
            x.sitter(0, 60);
            x.sitter(kind, 60);
            x.hold(3, 1);
            for (int as = 0; as <= 6; as++) {
                due("35 KIND " + kind + " as " + as, x.as(3, as), under[as].charAt(kind) == '1' ? 1 : KIND);
            }
        }
    }

    private static void asTheKindThatItIsNow() {
        BoothFlash x = sitters(1);
        x.hold(0, 0);
        due("35 a SITTER", x.as(0, 4), KIND);
        x.change(0, 0, 4);
        due("35 it is OLD now", x.as(0, 4), 0);
        x.kindFor(0, 60);
        due("35 it is OLD still", x.as(0, 4), 0);
        x.change(0, 0, 0);
        due("35 a SITTER again", x.as(0, 4), KIND);
    }

    // Promise 44: SPOTS that hold something
    private static void spotsCounted() {
        BoothFlash x = sitters(8);
        for (int spot = 0; spot < 10; spot++) {
            due("44 spots", x.count(7), spot);
            x.hold(spot, (spot + 7) % 8);
        }
        due("44 all ten", x.count(7), 10);
        for (int spot = 0; spot < 10; spot++) {
            x.hold(spot, -1);
            due("44 one less", x.count(7), 9 - spot);
        }
    }

    // Promise 36: n; Terms 3: SHEETS 0 to 3, at most 40 numbers
    private static void sheetNumbers() {
        EDGE.within("36 s", Edge::three, 0, 3, (x, s) -> x.sheet(s, 8, 1));
        for (int b : BITS) {
            for (int n = 0; n <= 40; n += n == 1 ? 38 : 1) {
                for (int s = 0; s < 4; s++) {
                    BoothFlash x = new BoothFlash();
                    due("36 n " + n, x.sheet(s, b, n), n);
                    due("36 the last of " + n, x.write(s, n - 1, 0), n == 0 ? BEYOND : 1);
                    due("36 none behind " + n, x.write(s, n, 0), BEYOND);
                }
            }
        }
    }

    // Promise 36: BEYOND: no such sheet, other bits
    private static void sheetOtherBits() {
        int[] others = {-1, 1, 4, 7, 9, 12, 15, 17, 24, 31, 33, 64, -8, -16, -32, 256 + 8, Edge.LEAST, Edge.GREATEST};
        for (int b : others) {
            for (int s = 0; s < 4; s++) {
                int sheet = s;
                EDGE.refused("36 bits " + b + " of " + s, Edge::three, BEYOND, x -> x.sheet(sheet, b, 3));
            }
        }
    }

    // Promise 36: SIZE: n is below 0; BEYOND: n is above 40 (also with bits 0)
    private static void sheetSize() {
        int[] bits = {0, 8, 16, 32};
        for (int b : bits) {
            int[] below = {-1, -40, Edge.LEAST};
            int[] above = {41, 255, 256, 65536, Edge.GREATEST};
            for (int n : below) {
                EDGE.refused("36 SIZE, bits " + b + ", n " + n, Edge::three, SIZE, x -> x.sheet(0, b, n));
                EDGE.refused("36 SIZE of a MISSING one", Edge::three, SIZE, x -> x.sheet(3, b, n));
            }
            for (int n : above) {
                EDGE.refused("36 BEYOND, bits " + b + ", n " + n, Edge::three, BEYOND, x -> x.sheet(1, b, n));
                EDGE.refused("36 BEYOND of a MISSING one", Edge::three, BEYOND, x -> x.sheet(3, b, n));
            }
        }
    }

    // Promise 36: BEYOND: no such sheet, other bits. SIZE. BEYOND.
    private static void sheetOrderOfFindings() {
        int[] sheets = {-1, 4, Edge.LEAST, Edge.GREATEST};
        for (int s : sheets) {
            EDGE.refused("36 no such sheet before SIZE", Edge::three, BEYOND, x -> x.sheet(s, 8, -1));
            EDGE.refused("36 no such sheet, bits 0", Edge::three, BEYOND, x -> x.sheet(s, 0, 0));
            EDGE.refused("36 no such sheet, bits 0, SIZE", Edge::three, BEYOND, x -> x.sheet(s, 0, -1));
        }
        EDGE.refused("36 other bits before SIZE", Edge::three, BEYOND, x -> x.sheet(0, 5, -1));
    }

    // Promise 36: bits 0: it is MISSING: n (0 if it is MISSING)
    private static void sheetMissing() {
        for (int n = 0; n <= 40; n += 20) {
            BoothFlash x = new BoothFlash();
            x.sheet(2, 16, 7);
            due("36 MISSING, n " + n, x.sheet(2, 0, n), 0);
            due("36 it is MISSING", x.judge(2), MISSING);
            due("36 it is MISSING", x.load(2), MISSING);
            due("36 it is MISSING", x.write(2, 0, 0), MISSING);
            due("36 MISSING again", x.sheet(2, 0, n), 0);
            due("36 it comes back", x.sheet(2, 8, 2), 2);
            due("36 the others are MISSING", x.judge(1), MISSING);
        }
    }

    // Promise 36: all 0
    private static void sheetAllNoughts() {
        for (int b : BITS) {
            BoothFlash x = sitters(8);
            x.sheet(0, b, 8);
            due("36 noughts", x.judge(0), 0);
            for (int i = 0; i < 8; i++) {
                x.write(0, i, i + 1);
            }
            holds("37 written", x, 0, 1, 2, 3, 4, 5, 6, 7, 8);
            x.sheet(0, b, 8);
            holds("36 noughts anew", x, 0, 0, 0, 0, 0, 0, 0, 0, 0);
        }
    }

    private static void sheetLessThanBefore() {
        BoothFlash x = sitters(8);
        x.sheet(0, 8, 40);
        for (int i = 0; i < 40; i++) {
            due("37 all forty " + i, x.write(0, i, 9), 1);
        }
        x.sheet(0, 16, 3);
        due("36 three now", x.write(0, 3, 1), BEYOND);
        x.sheet(0, 32, 40);
        begins("36 nothing is left", x, 0, 0, 0, 0, 0, 0, 0, 0, 0);
    }

    private static BoothFlash ofForty() {
        BoothFlash x = Edge.three();
        x.sheet(3, 16, 40);
        return x;
    }

    // Promise 37: BEYOND: no such sheet. MISSING. BEYOND: no such number.
    private static void writeBounds() {
        EDGE.within("37 s", SheetEdgesTest::ofForty, 0, 3, (x, s) -> x.write(s, 0, 1));
        EDGE.within("37 i of 4", Edge::three, 0, 3, (x, i) -> x.write(0, i, 1));
        EDGE.within("37 i of 3", Edge::three, 0, 2, (x, i) -> x.write(1, i, 1));
        EDGE.within("37 i of 40", SheetEdgesTest::ofForty, 0, 39, (x, i) -> x.write(3, i, 1));
    }

    private static void writeMissingFirst() {
        int[] numbers = {0, -1, 40, Edge.LEAST, Edge.GREATEST};
        for (int i : numbers) {
            EDGE.refused("37 MISSING before number " + i, Edge::three, MISSING, x -> x.write(3, i, 1));
            EDGE.refused("37 no such sheet before number " + i, Edge::three, BEYOND, x -> x.write(4, i, 1));
        }
    }

    private static void writeOnNone() {
        for (int b : BITS) {
            Edge.Maker none = () -> {
                BoothFlash x = Edge.three();
                x.sheet(3, b, 0);
                return x;
            };
            EDGE.refused("37 no numbers of " + b, none, BEYOND, x -> x.write(3, 0, 1));
        }
    }

    // Promise 37: v (its lowest bits)
    private static void writeLowestBits() {
        int[] v = {5, 256 + 5, 65536 + 5, (1 << 31) + 5, (255 << 24) + 5, -256 + 5, -65536 + 5, 128, 255, 300};
        int[] asked = {0, 1, 5, 44, 127, 128, 251, 255, 256, 261, 300};
        int[][] held = {
            {5, 5, 5, 5, 5, 5, 5, -1, -1, 44},
            {5, 261, 5, 5, 5, -1, 5, 128, 255, 300},
            {5, 261, -1, -1, -1, -1, -1, 128, 255, 300}
        };
        for (int b = 0; b < 3; b++) {
            for (int i = 0; i < v.length; i++) {
                BoothFlash x = sitters(1);
                x.sheet(0, BITS[b], 1);
                due("37 write " + v[i], x.write(0, 0, v[i]), 1);
                int matches = -1;
                for (int taken : asked) {
                    x.change(0, 5, taken);
                    matches = x.judge(0) == 0 ? taken : matches;
                }
                due("37 " + v[i] + " of " + BITS[b] + " bits", matches, held[b][i]);
            }
        }
    }

    // Terms 3: (told with their sign: of 8 bits 255 is -1)
    private static void writeSign() {
        int[] minusOne = {255, 65535, -1, 256 * 7 - 1, 65536 * 3 - 1, Edge.GREATEST};
        boolean[][] is = {
            {true, true, true, true, true, true}, {false, true, true, false, true, true},
            {false, false, true, false, false, false}
        };
        for (int b = 0; b < 3; b++) {
            for (int i = 0; i < minusOne.length; i++) {
                BoothFlash x = sitters(1);
                x.queue(0, 0);
                x.sheet(0, BITS[b], 1);
                x.write(0, 0, minusOne[i]);
                due("39 -1: " + minusOne[i] + " of " + BITS[b], x.load(0), is[b][i] ? 1 : 0);
                due("39 nobody: " + minusOne[i] + " of " + BITS[b], x.place(0), is[b][i] ? -1 : 0);
            }
        }
        BoothFlash x = sitters(1);
        int[] most = {127, 32767, 999};
        for (int b = 0; b < 3; b++) {
            x.sheet(0, BITS[b], 1);
            x.write(0, 0, most[b]);
            x.change(0, 5, Math.min(999, most[b]));
            due("37 the greatest of " + BITS[b], x.judge(0), most[b] > 999 ? 1 : 0);
        }
        x.change(0, 5, 128);
        x.sheet(0, 8, 1);
        x.write(0, 0, 128);
        due("37 128 of 8 bits is below 0", x.judge(0), 1);
    }

    private static BoothFlash pairs() {
        BoothFlash x = Edge.three();
        x.sheet(3, 32, 40);
        return x;
    }

    // Promise 38: BEYOND: no such sheet (either)
    private static void copySheets() {
        EDGE.within("38 s", Edge::eight, 0, 3, (x, s) -> x.copy(s, 0, s, 0, 0));
        int[] none = {-1, 4, Edge.LEAST, Edge.GREATEST};
        for (int s : none) {
            for (int t = 0; t < 4; t++) {
                int other = t;
                EDGE.refused("38 from sheet " + s + " to " + t, Edge::three, BEYOND, x -> x.copy(s, 0, other, 0, 1));
                EDGE.refused("38 from sheet " + t + " to " + s, Edge::three, BEYOND, x -> x.copy(other, 0, s, 0, 1));
            }
        }
    }

    // Promise 38: MISSING: one is
    private static void copyMissing() {
        for (int t = 0; t < 3; t++) {
            int other = t;
            EDGE.refused("38 from MISSING to " + t, Edge::three, MISSING, x -> x.copy(3, 0, other, 0, 1));
            EDGE.refused("38 from " + t + " to MISSING", Edge::three, MISSING, x -> x.copy(other, 0, 3, 0, 1));
        }
        EDGE.refused("38 both are MISSING", Edge::three, MISSING, x -> x.copy(3, 0, 3, 0, 0));
    }

    // Promise 38: KIND: they are not of as many bits
    private static void copyKind() {
        for (int s = 0; s < 3; s++) {
            for (int t = 0; t < 3; t++) {
                int from = s;
                int to = t;
                if (s != t) {
                    EDGE.refused("38 KIND " + s + " " + t, Edge::three, KIND, x -> x.copy(from, 0, to, 0, 1));
                    EDGE.refused("38 KIND, n 0", Edge::three, KIND, x -> x.copy(from, 0, to, 0, 0));
                }
            }
        }
    }

    // Promise 38: BEYOND. MISSING. KIND. BEYOND.
    private static void copyOrderOfFindings() {
        EDGE.refused("38 no such sheet before MISSING", Edge::three, BEYOND, x -> x.copy(3, 0, 4, 0, 1));
        EDGE.refused("38 no such sheet before MISSING", Edge::three, BEYOND, x -> x.copy(4, 0, 3, 0, 1));
        EDGE.refused("38 MISSING before KIND and BEYOND", Edge::three, MISSING, x -> x.copy(0, -1, 3, 41, -1));
        EDGE.refused("38 MISSING before BEYOND", Edge::three, MISSING, x -> x.copy(3, -1, 0, 41, -1));
        EDGE.refused("38 KIND before from", Edge::three, KIND, x -> x.copy(0, -1, 1, 0, 1));
        EDGE.refused("38 KIND before to", Edge::three, KIND, x -> x.copy(0, 0, 2, -1, 1));
        EDGE.refused("38 KIND before n", Edge::three, KIND, x -> x.copy(1, 0, 2, 0, -1));
        EDGE.refused("38 KIND before too many", Edge::three, KIND, x -> x.copy(1, 0, 2, 0, 99));
    }

    // Promise 38: BEYOND: one has not so many
    private static void copyNotSoMany() {
        EDGE.within("38 n, 8 to 40", SheetEdgesTest::pairs, 0, 8, (x, n) -> x.copy(2, 0, 3, 0, n));
        EDGE.within("38 n, 40 to 8", SheetEdgesTest::pairs, 0, 8, (x, n) -> x.copy(3, 0, 2, 0, n));
        EDGE.within("38 n, 40 to 40", SheetEdgesTest::pairs, 0, 40, (x, n) -> x.copy(3, 0, 3, 0, n));
        EDGE.within("38 n from 3 on", SheetEdgesTest::pairs, 0, 5, (x, n) -> x.copy(2, 3, 3, 30, n));
        EDGE.within("38 n to 3 on", SheetEdgesTest::pairs, 0, 5, (x, n) -> x.copy(3, 30, 2, 3, n));
        EDGE.within("38 from", SheetEdgesTest::pairs, 0, 6, (x, from) -> x.copy(2, from, 3, 0, 2));
        EDGE.within("38 to", SheetEdgesTest::pairs, 0, 6, (x, to) -> x.copy(3, 0, 2, to, 2));
        EDGE.within("38 from of forty", SheetEdgesTest::pairs, 0, 39, (x, from) -> x.copy(3, from, 2, 0, 1));
        EDGE.within("38 to of forty", SheetEdgesTest::pairs, 0, 39, (x, to) -> x.copy(2, 0, 3, to, 1));
    }

    // Promise 38: or from, to or n is below 0
    private static void copyBelowNought() {
        for (int n = 0; n <= 2; n++) {
            int many = n;
            EDGE.refused("38 from -1, n " + n, SheetEdgesTest::pairs, BEYOND, x -> x.copy(2, -1, 3, 0, many));
            EDGE.refused("38 to -1, n " + n, SheetEdgesTest::pairs, BEYOND, x -> x.copy(2, 0, 3, -1, many));
        }
        EDGE.refused("38 n -1", SheetEdgesTest::pairs, BEYOND, x -> x.copy(2, 0, 3, 0, -1));
        EDGE.refused("38 n -1 from 5 on", SheetEdgesTest::pairs, BEYOND, x -> x.copy(2, 5, 3, 5, -1));
        EDGE.refused("38 all below", SheetEdgesTest::pairs, BEYOND, x -> x.copy(2, -1, 3, -1, -1));
    }

    // from and n together are above all ints
    private static void copyWraps() {
        int[] far = {Edge.GREATEST, Edge.GREATEST - 1, Edge.LEAST, 1 << 30};
        for (int v : far) {
            EDGE.refused("38 n " + v, SheetEdgesTest::pairs, BEYOND, x -> x.copy(2, 1, 3, 1, v));
            EDGE.refused("38 from " + v, SheetEdgesTest::pairs, BEYOND, x -> x.copy(2, v, 3, 0, 2));
            EDGE.refused("38 to " + v, SheetEdgesTest::pairs, BEYOND, x -> x.copy(2, 0, 3, v, 2));
            EDGE.refused("38 from, n " + v, SheetEdgesTest::pairs, BEYOND, x -> x.copy(2, v, 3, 0, v));
            EDGE.refused("38 from, to, n " + v, SheetEdgesTest::pairs, BEYOND, x -> x.copy(2, v, 3, v, v));
        }
    }

    // Promise 38: n numbers: none of them
    private static void copyNone() {
        EDGE.asked("38 none", SheetEdgesTest::pairs, 0, x -> x.copy(2, 0, 3, 0, 0));
        EDGE.asked("38 none at the ends", SheetEdgesTest::pairs, 0, x -> x.copy(2, 8, 3, 40, 0));
        EDGE.refused("38 none behind the end", SheetEdgesTest::pairs, BEYOND, x -> x.copy(2, 9, 3, 0, 0));
        EDGE.refused("38 none to behind the end", SheetEdgesTest::pairs, BEYOND, x -> x.copy(2, 0, 3, 41, 0));
        BoothFlash x = sitters(1);
        for (int b : BITS) {
            x.sheet(0, b, 0);
            due("38 none of none", x.copy(0, 0, 0, 0, 0), 0);
            due("38 one of none", x.copy(0, 0, 0, 0, 1), BEYOND);
        }
    }

    private static void copyAll() {
        for (int b : BITS) {
            BoothFlash x = sitters(8);
            x.sheet(0, b, 40);
            x.sheet(1, b, 40);
            for (int i = 0; i < 40; i++) {
                x.write(0, i, i + 1);
            }
            due("38 all forty", x.copy(0, 0, 1, 0, 40), 40);
            begins("38 the first eight", x, 1, 1, 2, 3, 4, 5, 6, 7, 8);
            due("38 the last eight", x.copy(1, 32, 1, 0, 8), 8);
            begins("38 the last eight", x, 1, 33, 34, 35, 36, 37, 38, 39, 40);
            due("38 the source stays", x.copy(0, 0, 0, 0, 40), 40);
            begins("38 the source stays", x, 0, 1, 2, 3, 4, 5, 6, 7, 8);
        }
    }

    // Promise 38: (as they all were)
    private static void copyWithin() {
        int[][] cases = {
            // from, to, n, and what is there then
            {0, 1, 7, 1, 1, 2, 3, 4, 5, 6, 7}, {1, 0, 7, 2, 3, 4, 5, 6, 7, 8, 8}, {0, 2, 4, 1, 2, 1, 2, 3, 4, 7, 8},
            {2, 0, 4, 3, 4, 5, 6, 5, 6, 7, 8}, {0, 0, 8, 1, 2, 3, 4, 5, 6, 7, 8}, {0, 4, 4, 1, 2, 3, 4, 1, 2, 3, 4},
            {7, 0, 1, 8, 2, 3, 4, 5, 6, 7, 8}, {0, 7, 1, 1, 2, 3, 4, 5, 6, 7, 1}
        };
        for (int[] c : cases) {
            BoothFlash x = sitters(8);
            Check.fill(x, 0, 1, 2, 3, 4, 5, 6, 7, 8);
            due("38 within one", x.copy(0, c[0], 0, c[1], c[2]), c[2]);
            holds("38 " + c[0] + " " + c[1] + " " + c[2], x, 0, java.util.Arrays.copyOfRange(c, 3, 11));
        }
    }

    private static void copyKeepsTheRest() {
        BoothFlash x = sitters(8);
        Check.fill(x, 0, 11, 12, 13, 14);
        Check.fill(x, 1, 1, 2, 3, 4, 5, 6, 7, 8);
        due("38 two", x.copy(0, 1, 1, 3, 2), 2);
        holds("38 the rest stays", x, 1, 1, 2, 3, 12, 13, 6, 7, 8);
        holds("38 the source stays", x, 0, 11, 12, 13, 14);
        x.write(0, 1, 99);
        holds("38 they are apart", x, 1, 1, 2, 3, 12, 13, 6, 7, 8);
    }

    // Promise 39: BEYOND: no such sheet. MISSING.
    private static void loadBounds() {
        EDGE.within("39 s", Edge::three, 0, 3, BoothFlash::load);
        EDGE.refused("39 MISSING", Edge::eight, MISSING, x -> x.load(3));
        EDGE.refused("39 MISSING without SITTERS", Edge::none, MISSING, x -> x.load(3));
    }

    // Promise 39: or for which there is no place
    private static void loadSixPlaces() {
        for (int n = 0; n <= 40; n++) {
            BoothFlash x = sitters(2);
            for (int p = 0; p < 6; p++) {
                x.queue(p, 1);
            }
            x.sheet(0, 8, n);
            due("39 of " + n, x.load(0), Math.min(n, 6));
            for (int p = 0; p < 6; p++) {
                due("39 place " + p + " of " + n, x.place(p), p < n ? 0 : 1);
            }
        }
    }

    // Promise 39: It ends at the first that is no SITTER (nor -1)
    private static void loadEndsAtTheFirst() {
        int[] none = {8, -2, Edge.LEAST, Edge.GREATEST};
        for (int v : none) {
            for (int at = 0; at < 6; at++) {
                BoothFlash x = sitters(8);
                Check.fill(x, 0, 7, 6, 5, 4, 3, 2);
                x.write(0, at, v);
                due("39 ends at " + at, x.load(0), at);
                for (int p = 0; p < 6; p++) {
                    due("39 place " + p + ", ends at " + at, x.place(p), p < at ? 7 - p : -1);
                }
                due("39 no finding", x.status(-1), 0);
            }
        }
        BoothFlash y = sitters(8);
        Check.fill(y, 0, 1, 1, 1, 1, 1, 1, 99);
        due("39 the 7th is not asked", y.load(0), 6);
    }

    // Promise 39: (-1: nobody)
    private static void loadNobody() {
        BoothFlash x = new BoothFlash();
        Check.fill(x, 0, -1, -1, -1, -1, -1, -1, -1);
        due("39 nobody six times", x.load(0), 6);
        Check.fill(x, 0, 0);
        due("39 no SITTERS", x.load(0), 0);
        x.sitter(0, 60);
        due("39 one now", x.load(0), 1);
        due("39 one now", x.place(0), 0);
        Check.fill(x, 0, -1);
        due("39 nobody again", x.load(0), 1);
        due("39 nobody again", x.place(0), -1);
        Check.fill(x, 0, 0, 1);
        due("39 the first that isn't there", x.load(0), 1);
    }

    private static void loadByBits() {
        for (int b = 0; b < 3; b++) {
            BoothFlash x = sitters(8);
            x.sheet(0, BITS[b], 2);
            x.write(0, 0, 256 + 7);
            x.write(0, 1, 65536 + 6);
            due("39 of " + BITS[b] + " bits", x.load(0), b == 0 ? 2 : 0);
            x.write(0, 0, 65536 + 7);
            due("39 of " + BITS[b] + " bits", x.load(0), b == 2 ? 0 : 2);
            due("39 who, of " + BITS[b], x.place(0), b == 2 ? -1 : 7);
        }
    }

    // Promise 40: BEYOND: no such sheet. MISSING.
    private static void judgeBounds() {
        EDGE.within("40 s", Edge::three, 0, 3, BoothFlash::judge);
        EDGE.refused("40 MISSING", Edge::eight, MISSING, x -> x.judge(3));
        EDGE.refused("40 MISSING without SITTERS", Edge::none, MISSING, x -> x.judge(3));
        EDGE.asked("40 asks", Edge::three, Edge.three().judge(0), x -> x.judge(0));
    }

    private static void judgeNoneAndForty() {
        for (int many = 0; many <= 8; many++) {
            BoothFlash x = sitters(many);
            x.sheet(0, 32, 0);
            due("40 no numbers, " + many, x.judge(0), 0);
            x.sheet(0, 32, 40);
            due("40 forty numbers, " + many, x.judge(0), many + 1);
            x.sheet(0, 32, many);
            due("40 as many as there are, " + many, x.judge(0), 0);
        }
    }

    // Promise 40: 1 and the place of the first that isn't so
    private static void judgeFirst() {
        for (int first = 0; first < 8; first++) {
            BoothFlash x = sitters(8);
            x.sheet(0, 8, 8);
            for (int i = first; i < 8; i += 2) {
                x.write(0, i, 1);
            }
            due("40 the first is " + first, x.judge(0), first + 1);
            x.change(first, 5, 1);
            due("40 the next but one", x.judge(0), first + 2 < 8 ? first + 3 : 0);
        }
    }

    private static void judgeSitterWithout() {
        BoothFlash x = sitters(8);
        x.change(7, 5, 9);
        x.sheet(0, 8, 7);
        due("40 one without a number is not asked", x.judge(0), 0);
        x.sheet(0, 8, 8);
        due("40 but with one", x.judge(0), 8);
    }

    private static void judgeGreatest() {
        BoothFlash x = sitters(1);
        x.change(0, 5, 999);
        int[] want = {1, 0, 0};
        for (int b = 0; b < 3; b++) {
            x.sheet(0, BITS[b], 1);
            x.write(0, 0, 999);
            due("40 999 of " + BITS[b], x.judge(0), want[b]);
            x.write(0, 0, 1000);
            due("40 1000 of " + BITS[b], x.judge(0), 1);
            x.write(0, 0, 998);
            due("40 998 of " + BITS[b], x.judge(0), 1);
        }
        x.sheet(0, 32, 1);
        x.write(0, 0, -1);
        due("40 -1 is no any", x.judge(0), 1);
    }
}
