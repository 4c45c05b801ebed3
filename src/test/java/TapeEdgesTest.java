/** Promises 31 to 33, THE TAPE and its TEXTS: each sentence that names a boundary has its own test. */
public final class TapeEdgesTest {
    private static final int BEYOND = -1000001;
    private static final int FULL = -1000002;
    private static final String[] KINDS = {"sitter", "child", "glasses", "shy", "old", "twin", "baby"};

    private static final Check CHECK = new Check("TapeEdgesTest");
    private static final Edge EDGE = new Edge(CHECK);

    public static void main(String[] args) {
        feedFromOneToFour();
        feedLowestBytes();
        feedHighestFirst();
        feedFull();
        feedBeyondBeforeFull();
        feedJustFull();
        wipeEmptyAndFull();
        textOfEmptyTape();
        textOfFullTape();
        textEmptiesTheTape();
        textIsNoFinding();
        textFaultChangesNothing();
        tokensAsLongAsCanBe();
        wordsAreSmallLetters();
        wordsInFull();
        numbers999AtMost();
        numbersWithNoughts();
        numbersWrap();
        signStandsAlone();
        blanksMayStand();
        otherBlanksMayNot();
        itemsAtLeastOne();
        perhapsInOrder();
        perhapsOnce();
        traitEdges();
        boothEdges();
        queueOneToSix();
        queueSittersThere();
        queueOthersStay();
        ninthSitter();
        endsTooEarly();
        faultOfAWord();
        faultOfAByte();
        itemsItemByItem();
        CHECK.end();
    }

    private static void due(String call, long got, long want) {
        CHECK.due(call, got, want);
    }

    private static void fault(String text, int place) {
        due("33 " + text, Check.read(new BoothFlash(), text), -1 - place);
    }

    private static BoothFlash fine(String text, int items) {
        BoothFlash x = new BoothFlash();
        due("33 " + text, Check.read(x, text), items);
        return x;
    }

    private static Edge.Maker fed(Edge.Maker maker, int bytes) {
        return () -> {
            BoothFlash x = maker.make();
            int four = ' ' * 0x01010101;
            for (int left = bytes - x.count(5); left > 0; left -= 4) {
                x.feed(four, Math.min(4, left));
            }
            return x;
        };
    }

    // Promise 31: (n 1 to 4). BEYOND: n.
    private static void feedFromOneToFour() {
        EDGE.within("31 n", Edge::three, 1, 4, (x, n) -> x.feed(0, n));
        EDGE.within("31 n on an empty tape", BoothFlash::new, 1, 4, (x, n) -> x.feed(0, n));
        for (int n = 1; n <= 4; n++) {
            due("31 how many it has " + n, new BoothFlash().feed(-1, n), n);
        }
    }

    // Promise 31: the n lowest bytes of a number
    private static void feedLowestBytes() {
        // "old;", of which the higher bytes are cut off
        int number = ('x' << 24) + ('o' << 16) + ('l' << 8) + 'd';
        BoothFlash x = new BoothFlash();
        x.feed(number, 3);
        due("31 the lowest three", x.text(), 1);
        x.feed('o', 1);
        x.feed(number, 2);
        due("31 the lowest two", x.text(), 1);
        x.feed('o', 1);
        x.feed('l', 1);
        x.feed(number, 1);
        due("31 the lowest one", x.text(), 1);
        x.feed(number, 4);
        due("31 all four", x.text(), -1);
        due("31 they were OLD", x.count(1), 3);
        x.feed(-1, 1);
        due("31 a byte of 255", x.text(), -1);
    }

    // Promise 31: the highest of these first
    private static void feedHighestFirst() {
        BoothFlash x = new BoothFlash();
        x.feed(('l' << 24) + ('i' << 16) + ('g' << 8) + 'h', 4);
        x.feed(('t' << 8) + '7', 2);
        due("31 light7", x.text(), 1);
        due("31 light7", x.booth(1), 7);
        x.feed(('d' << 16) + ('l' << 8) + 'o', 3);
        due("31 not the lowest first", x.text(), -1);
    }

    // Promise 31: FULL; Terms 3: bytes, at most 120
    private static void feedFull() {
        for (int n = 1; n <= 4; n++) {
            int bytes = n;
            EDGE.refused("31 one too many, n " + n, fed(Edge::three, 121 - n), FULL, x -> x.feed(59, bytes));
            EDGE.refused("31 on a full one, n " + n, fed(Edge::eight, 120), FULL, x -> x.feed(59, bytes));
        }
    }

    // Promise 31: BEYOND: n. FULL.
    private static void feedBeyondBeforeFull() {
        EDGE.within("31 n on a full tape", fed(Edge::three, 120), 1, 4, (x, n) -> x.feed(0, n));
    }

    private static void feedJustFull() {
        for (int n = 1; n <= 4; n++) {
            BoothFlash x = fed(BoothFlash::new, 120 - n).make();
            due("31 the last " + n, x.feed(0, n), 120);
            due("31 bytes " + n, x.count(5), 120);
            due("31 no finding " + n, x.status(-1), 0);
        }
        BoothFlash x = fed(BoothFlash::new, 118).make();
        due("31 FULL", x.feed(0, 3), FULL);
        due("31 but two can come", x.feed(0, 2), 120);
    }

    // Promise 32: how many it had
    private static void wipeEmptyAndFull() {
        BoothFlash x = new BoothFlash();
        due("32 an empty one", x.wipe(), 0);
        x.feed(';', 1);
        due("32 one byte", x.wipe(), 1);
        due("32 it is empty then", x.wipe(), 0);
        due("32 it is empty then", x.count(5), 0);
        BoothFlash y = fed(BoothFlash::new, 120).make();
        due("32 a full one", y.wipe(), 120);
        due("32 four can come again", y.feed(0, 4), 4);
        Check.feed(y, ";;");
        y.wipe();
        due("32 nothing is left", Check.read(y, "old"), 1);
    }

    // Terms 3: how many bytes there are if it ends too early
    private static void textOfEmptyTape() {
        due("33 an empty tape", new BoothFlash().text(), -1);
        fault(" ", 1);
        fault("    ", 4);
        BoothFlash x = fed(BoothFlash::new, 120).make();
        due("33 a full tape of blanks", x.text(), -121);
    }

    private static void textOfFullTape() {
        StringBuilder text = new StringBuilder("sitter tall 1 still 1 merry 1 coins 1;");
        while (text.length() < 113) {
            text.append(' ');
        }
        text.append("light 9");
        due("33 120 signs", text.length(), 120);
        BoothFlash x = fine(text.toString(), 2);
        due("33 the last byte counts", x.booth(1), 9);
        text.setCharAt(119, 'x');
        fault(text.toString(), 119);
        text.setCharAt(119, ' ');
        fault(text.toString(), 120);
    }

    // Promise 33: and empty then; With a FAULT: .. THE TAPE is empty
    private static void textEmptiesTheTape() {
        BoothFlash x = new BoothFlash();
        Check.feed(x, "old");
        x.text();
        due("33 empty then", x.count(5), 0);
        due("33 empty then", x.wipe(), 0);
        Check.feed(x, "dark");
        x.text();
        due("33 empty with a FAULT", x.count(5), 0);
        due("33 read no second time", x.text(), -1);
        due("33 one OLD", x.count(1), 1);
    }

    // Promise 33: no finding
    private static void textIsNoFinding() {
        BoothFlash x = new BoothFlash();
        due("33 FAULT", Check.read(x, "old;;"), -5);
        due("33 no finding", x.status(-1), 0);
        BoothFlash y = Edge.eight();
        y.wipe();
        due("33 a 9th", Check.read(y, "old"), -1);
        due("33 a 9th is no finding", y.status(-1), 0);
    }

    // Promise 33: nothing changes but that THE TAPE is empty
    private static void textFaultChangesNothing() {
        String[] texts = {
            "stool 1;light 1;price 1;twin tall 3;queue 0 1 2 3;dark", "old;old;old;queue 5 5 5;queue 9",
            "queue 2 2 2;stool 61", "sitter coins 1000", "light 9;", "price 9;light 10"
        };
        for (String text : texts) {
            BoothFlash x = Edge.three();
            x.wipe();
            CHECK.isTrue("33 FAULT of " + text, Check.read(x, text) < 0);
            BoothFlash y = Edge.three();
            y.wipe();
            CHECK.isTrue("33 nothing changes: " + text, java.util.Arrays.equals(Edge.tell(x), Edge.tell(y)));
        }
    }

    // Terms 3: TOKENS, each as long as can be
    private static void tokensAsLongAsCanBe() {
        fault("oldold", 0);
        fault("oldtall 3", 0);
        fault("queuequeue", 0);
        fault("light 55", 6);
        fault("light 5 5", 8);
        fine("light5", 1);
        fine("old tall5still5merry5coins5", 1);
        fault("old tall5stil5", 9);
        fine("old;queue0 0", 2);
        fault("old;queue00 1", 12);
        fine("old;queue000", 2);
    }

    // Terms 3: WORDS (letters a to z)
    private static void wordsAreSmallLetters() {
        fault("Sitter", 0);
        fault("siTter", 0);
        fault("SITTER", 0);
        fault("old Tall 3", 4);
        fault("z", 0);
        fault("a", 0);
        fault("zold", 0);
        fault("aold", 0);
        fault("olda", 0);
        fault("oldz", 0);
        fault("old`", 3);
        fault("old{", 3);
        fault("`old", 0);
        fault("{old", 0);
    }

    private static void wordsInFull() {
        String[] items = {"sitter", "child", "glasses", "shy", "old", "twin", "baby", "stool 1", "light 1", "price 1"};
        for (String item : items) {
            fine(item, 1);
            fault(item.substring(1), 0);
            fault("x" + item, 0);
            fault("x" + item.substring(1), 0);
        }
        for (String kind : KINDS) {
            fault(kind.substring(0, kind.length() - 1), 0);
            fault(kind + "x", 0);
            fault(kind + "s 3", 0);
        }
        String[] traits = {"tal 3", "talls 3", "stil 3", "stills 3", "merr 3", "merryy 3", "coin 3", "coinss 3"};
        for (String trait : traits) {
            fault("old " + trait, 4);
        }
        String[] others = {"stools 3", "stoo 3", "lights 3", "ligh 3", "prices 3", "pric 3", "queues 0", "queu 0"};
        for (String other : others) {
            fault(other, 0);
        }
    }

    // Terms 3: NUMBERS (digits, 999 at most)
    private static void numbers999AtMost() {
        due("33 coins 999", fine("old coins 999", 1).of(0, 4), 999);
        fault("old coins 1000", 10);
        fault("old coins 1000;dark", 10);
        fault("old coins 9999", 10);
        fault("light 999", 6);
        fault("light 1000", 6);
        fault("1000", 0);
        fault("999", 0);
    }

    private static void numbersWithNoughts() {
        due("33 noughts before", fine("old coins 0000999", 1).of(0, 4), 999);
        due("33 noughts alone", fine("stool 0000", 1).booth(0), 0);
        due("33 noughts before", fine("light 09", 1).booth(1), 9);
        fault("light 010", 6);
    }

    // A wrap-around of the digits: no number comes round to a small one
    private static void numbersWrap() {
        String[] far = {
            "2147483647", "2147483648", "4294967295", "4294967296", "4294967301", "8589934597",
            "18446744073709551616", "18446744073709551621", "1000000000000000000000000000000000000005"
        };
        for (String number : far) {
            fault("stool " + number, 6);
            fault("old coins " + number, 10);
            fault("old;queue " + number, 10);
        }
    }

    // Terms 3: SIGN ;
    private static void signStandsAlone() {
        fine("old;old", 2);
        fault(";", 0);
        fault(";;", 0);
        fault("old;;old", 4);
        fault("old; ;old", 5);
        fault("old old", 4);
        fault("light 3light 4", 7);
        fault("light 3 light 4", 8);
        fault("old:old", 3);
        fault("old,old", 3);
    }

    // Terms 3: blanks may stand between
    private static void blanksMayStand() {
        fine("old", 1);
        fine(" old", 1);
        fine("old ", 1);
        fine("  old  ;  shy  ", 2);
        fine("old   tall   60   still   3", 1);
        fault("o ld", 0);
        fault("old tall 6 0", 11);
        fault("light 1 0", 8);
    }

    private static void otherBlanksMayNot() {
        int[] others = {0, 9, 10, 11, 12, 13, 31, 33, 127, 128, 160, 255};
        for (int b : others) {
            fault((char) b + "old", 0);
            fault("old" + (char) b, 3);
            fault("old " + (char) b + " tall 3", 4);
        }
    }

    // Terms 3: TEXT: ITEM { ; ITEM }
    private static void itemsAtLeastOne() {
        fault("", 0);
        fine("shy", 1);
        fine("shy;shy", 2);
        fine("shy;shy;shy;shy;shy;shy;shy;shy", 8);
        fault("shy;", 4);
        StringBuilder many = new StringBuilder("light 1");
        for (int i = 0; i < 14; i++) {
            many.append(";light 1");
        }
        fine(many.toString(), 15);
        BoothFlash x = new BoothFlash();
        x.sitter(0, 60);
        StringBuilder most = new StringBuilder("light0");
        for (int i = 1; i < 17; i++) {
            most.append(";light").append(i % 10);
        }
        due("33 the most ITEMS that 120 bytes hold", Check.read(x, most.toString()), 17);
        due("33 the last one counts", x.booth(1), 6);
    }

    // Terms 3: perhaps tall .., perhaps still .., perhaps merry .., perhaps coins ..
    private static void perhapsInOrder() {
        String[] words = {"tall", "still", "merry", "coins"};
        int[] first = {60, 5, 3, 20};
        for (int set = 0; set < 16; set++) {
            StringBuilder text = new StringBuilder("glasses");
            for (int i = 0; i < 4; i++) {
                if ((set >> i & 1) == 1) {
                    text.append(' ').append(words[i]).append(' ').append(i + 6);
                }
            }
            BoothFlash x = fine(text.toString(), 1);
            for (int i = 0; i < 4; i++) {
                due("33 " + text + ": " + words[i], x.of(0, i + 1), (set >> i & 1) == 1 ? i + 6 : first[i]);
            }
        }
        for (int later = 1; later < 4; later++) {
            for (int sooner = 0; sooner < later; sooner++) {
                String text = "old " + words[later] + " 1 " + words[sooner] + " 1";
                fault(text, 4 + words[later].length() + 3);
            }
        }
    }

    private static void perhapsOnce() {
        String[] words = {"tall", "still", "merry", "coins"};
        for (String word : words) {
            fault("old " + word + " 1 " + word + " 1", 4 + word.length() + 3);
            fault("old " + word, 4 + word.length());
            fault("old " + word + " ", 5 + word.length());
            fault("old " + word + ";old", 4 + word.length());
            fault("old " + word + " x", 5 + word.length());
            fault(word + " 1", 0);
            fault("light 1 " + word + " 1", 8);
        }
    }

    // Terms 3: tall (0 to 90), still (0 to 9), merry (0 to 9), coins (0 to 999)
    private static void traitEdges() {
        String[] words = {"tall", "still", "merry", "coins"};
        int[] most = {90, 9, 9, 999};
        for (int i = 0; i < 4; i++) {
            for (String kind : KINDS) {
                String text = kind + " " + words[i] + " ";
                due("33 least of " + text, fine(text + 0, 1).of(0, i + 1), 0);
                due("33 greatest of " + text, fine(text + most[i], 1).of(0, i + 1), most[i]);
                fault(text + (most[i] + 1), text.length());
                fault(text + "-1", text.length());
            }
        }
    }

    // Terms 3: stool (0 to 60), light (0 to 9), price (0 to 20)
    private static void boothEdges() {
        String[] words = {"stool", "light", "price"};
        int[] most = {60, 9, 20};
        for (int i = 0; i < 3; i++) {
            String text = words[i] + " ";
            due("33 least of " + text, fine(text + 0, 1).booth(i), 0);
            due("33 greatest of " + text, fine(text + most[i], 1).booth(i), most[i]);
            fault(text + (most[i] + 1), text.length());
            fault(text + "-1", text.length());
            fault(words[i], words[i].length());
            fault(text, text.length());
            fault(text + "x", text.length());
            fault(text + ";", text.length());
            fault(text + "1 1", text.length() + 2);
        }
        fault("till 5", 0);
        fault("minute 5", 0);
    }

    // Terms 3: queue, up to six NUMBERS (at least one)
    private static void queueOneToSix() {
        fault("old;queue", 9);
        fault("old;queue ", 10);
        fault("old;queue;", 9);
        fault("old;queue x", 10);
        StringBuilder text = new StringBuilder("old;shy;queue");
        for (int n = 1; n <= 6; n++) {
            text.append(" 1");
            BoothFlash x = fine(text.toString(), 3);
            for (int p = 0; p < 6; p++) {
                due("33 place " + p + " of " + n, x.place(p), p < n ? 1 : -1);
            }
        }
        fault(text + " 1", text.length() + 1);
        fault(text + "  1", text.length() + 2);
        fine(text + ";queue 0", 4);
        fine(text + " ;old", 4);
    }

    // Terms 3: SITTERS who are there already
    private static void queueSittersThere() {
        fault("queue 0", 6);
        fault("queue 0;old", 6);
        fine("old;queue 0", 2);
        fault("old;queue 1", 10);
        fault("old;queue 1;shy", 10);
        fault("old;queue 0 0 1", 14);
        fault("old;queue -1", 10);
        fine("old;shy;queue 1", 3);
        BoothFlash x = Edge.eight();
        x.wipe();
        due("33 the last of eight", Check.read(x, "queue 7"), 1);
        due("33 none above", Check.read(x, "queue 8"), -7);
        due("33 none above", Check.read(x, "queue 7 8"), -9);
        due("33 eight are there", x.place(0), 7);
        BoothFlash y = new BoothFlash();
        y.sitter(0, 60);
        due("33 one there before the text", Check.read(y, "queue 0;old;queue 1"), 3);
    }

    // Terms 3: places 0, 1, ..; the others stay
    private static void queueOthersStay() {
        BoothFlash x = Edge.eight();
        x.wipe();
        for (int p = 0; p < 6; p++) {
            x.queue(p, 7);
        }
        due("33 two places", Check.read(x, "queue 0 1"), 1);
        int[] want = {0, 1, 7, 7, 7, 7};
        for (int p = 0; p < 6; p++) {
            due("33 place " + p, x.place(p), want[p]);
        }
        due("33 twice in a TEXT", Check.read(x, "queue 2 2 2;queue 3"), 2);
        int[] then = {3, 2, 2, 7, 7, 7};
        for (int p = 0; p < 6; p++) {
            due("33 place " + p, x.place(p), then[p]);
        }
    }

    // Terms 3: the WORD of a 9th SITTER: its own
    private static void ninthSitter() {
        for (int there = 0; there <= 8; there++) {
            BoothFlash x = new BoothFlash();
            for (int s = 0; s < there; s++) {
                x.sitter(0, 60);
            }
            StringBuilder text = new StringBuilder("light 3");
            for (int s = there; s < 8; s++) {
                text.append(";twin");
            }
            due("33 up to eight, " + there, Check.read(x, text.toString()), 9 - there);
            due("33 eight", x.count(1), 8);
            due("33 a 9th", Check.read(x, "light 4; baby tall 999"), -1 - 9);
            due("33 LIGHT stays", x.booth(1), 3);
            for (String kind : KINDS) {
                due("33 a 9th, " + kind, Check.read(x, kind), -1);
            }
            due("33 no SITTER, no FAULT", Check.read(x, "queue 7"), 1);
        }
        fault("shy;shy;shy;shy;shy;shy;shy;shy;shy;dark", 32);
        fault("shy;shy;shy;shy;shy;shy;shy;shy;shyx", 32);
    }

    private static void endsTooEarly() {
        String[] texts = {"old;", "old tall", "old still ", "old merry", "old coins  ", "queue", "stool", "light ", "price"};
        for (String text : texts) {
            fault(text, text.length());
            fault(text + "   ", text.length() + 3);
        }
    }

    // Terms 3: the first byte of the first TOKEN that can't stand there
    private static void faultOfAWord() {
        fault("dark", 0);
        fault("old dark", 4);
        fault("old; dark;dark", 5);
        fault("old tall dark", 9);
        fault("stool dark", 6);
        fault("old;queue 0 dark", 12);
        fault("old;queue dark", 10);
        fault("old queue 0", 4);
        fault("light 3 dark", 8);
        fault("light light 3", 6);
        fault("tall", 0);
        fault("5;old", 0);
    }

    private static void faultOfAByte() {
        int[] none = {0, 31, 33, 47, 58, 60, 64, 91, 96, 123, 126, 127, 128, 200, 255};
        for (int b : none) {
            char sign = (char) b;
            fault("" + sign, 0);
            fault("old;" + sign, 4);
            fault("light " + sign, 6);
            fault("light 3" + sign, 7);
            fault("old tall 3" + sign, 10);
            fault("old;queue 0" + sign, 11);
            fault("ol" + sign + "d", 0);
        }
        fault("light 4.5", 7);
        fault("light +4", 6);
    }

    // Promise 33: all that it tells is so, item by item
    private static void itemsItemByItem() {
        BoothFlash x = fine("baby;queue 0;twin;queue 1 0;stool 3;stool 4;price 1;light 8;price 0", 9);
        due("33 STOOL: the last counts", x.booth(0), 4);
        due("33 PRICE: the last counts", x.booth(2), 0);
        due("33 LIGHT", x.booth(1), 8);
        due("33 place 0", x.place(0), 1);
        due("33 place 1", x.place(1), 0);
        due("33 KIND", x.of(0, 0), 6);
        due("33 KIND", x.of(1, 0), 5);
        due("33 TILL stays", x.booth(3), 0);
        due("33 MINUTE stays", x.now(0), 0);
        BoothFlash y = Edge.three();
        y.wipe();
        int till = y.booth(3);
        due("33 a new one behind three", Check.read(y, "child tall 1"), 1);
        due("33 its number", y.of(3, 1), 1);
        due("33 COINS at first", y.of(3, 4), 20);
        due("33 the others stay", y.of(2, 1), 59);
        due("33 TILL stays", y.booth(3), till);
        due("33 MINUTE stays", y.now(0), 3);
        due("33 z stays", y.count(6), 99);
    }
}
