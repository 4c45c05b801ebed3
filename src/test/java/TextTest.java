/** Promise 33: what TEXTS tell, and the places of their FAULTS. */
public final class TextTest {
    private static final Check CHECK = new Check("TextTest");

    public static void main(String[] args) {
        kindsHaveWords();
        traitsAreRead();
        boothIsRead();
        queueIsRead();
        blanksMayStandBetween();
        itemsAreInOrder();
        faultsOfWords();
        faultsOfNumbers();
        faultsOfEnds();
        faultsOfOtherBytes();
        faultsOfQueues();
        faultOfNinth();
        nothingChangesWithFault();
        greatestTape();
        CHECK.end();
    }

    private static void due(String call, long got, long want) {
        CHECK.due(call, got, want);
    }

    /** A TEXT on a new object has this FAULT. */
    private static void fault(String text, int place) {
        due(text, Check.read(new BoothFlash(), text), -1 - place);
    }

    /** A TEXT on a new object is read with this many ITEMS. */
    private static BoothFlash fine(String text, int items) {
        BoothFlash x = new BoothFlash();
        due(text, Check.read(x, text), items);
        due("tape behind " + text, x.count(5), 0);
        return x;
    }

    private static void kindsHaveWords() {
        String[] words = {"sitter", "child", "glasses", "shy", "old", "twin", "baby"};
        int[] first = {0, 60, 5, 3, 20, 0, 0};
        for (int kind = 0; kind < 7; kind++) {
            BoothFlash x = fine(words[kind], 1);
            first[0] = kind;
            for (int what = 0; what <= 6; what++) {
                due(words[kind] + " " + what, x.of(0, what), first[what]);
            }
            due("sitters", x.count(1), 1);
        }
    }

    private static void traitsAreRead() {
        BoothFlash x = fine("twin tall 90 still 9 merry 8 coins 999;old still 0 coins 0;shy merry 9;baby tall 0", 4);
        int[][] want = {{5, 90, 9, 8, 999}, {4, 60, 0, 3, 0}, {3, 60, 5, 9, 20}, {6, 0, 5, 3, 20}};
        for (int s = 0; s < 4; s++) {
            for (int what = 0; what <= 4; what++) {
                due("of " + s + " " + what, x.of(s, what), want[s][what]);
            }
        }
        due("leading noughts", fine("old tall 00000000090", 1).of(0, 1), 90);
    }

    private static void boothIsRead() {
        BoothFlash x = fine("stool 60;light 9;price 20", 3);
        due("stool", x.booth(0), 60);
        due("light", x.booth(1), 9);
        due("price", x.booth(2), 20);
        BoothFlash y = fine("stool 0;light 0;price 0", 3);
        due("stool", y.booth(0), 0);
        due("light", y.booth(1), 0);
        due("price", y.booth(2), 0);
    }

    private static void queueIsRead() {
        BoothFlash x = fine("old;shy;queue 1 0 1", 3);
        int[] want = {1, 0, 1, -1, -1, -1};
        for (int p = 0; p < 6; p++) {
            due("place " + p, x.place(p), want[p]);
        }
        due("again", Check.read(x, "queue 0;twin;queue 0 0 0 0 0 2"), 3);
        int[] then = {0, 0, 0, 0, 0, 2};
        for (int p = 0; p < 6; p++) {
            due("place " + p, x.place(p), then[p]);
        }
        due("others stay", Check.read(x, "queue 2"), 1);
        due("place 0", x.place(0), 2);
        due("place 5", x.place(5), 2);
        due("place 1", x.place(1), 0);
    }

    private static void blanksMayStandBetween() {
        BoothFlash x = fine("  sitter   tall60still 3 ; queue0 0  ;light4  ", 3);
        due("tall", x.of(0, 1), 60);
        due("still", x.of(0, 2), 3);
        due("place 1", x.place(1), 0);
        due("light", x.booth(1), 4);
        fine("old", 1);
        fine(" old ", 1);
    }

    private static void itemsAreInOrder() {
        BoothFlash x = fine("light 3;light 4;old;light 5;old;light 6", 6);
        due("the last one counts", x.booth(1), 6);
        due("sitters", x.count(1), 2);
        due("more sitters", Check.read(x, "twin;queue 2"), 2);
        due("the third", x.of(2, 0), 5);
    }

    private static void faultsOfWords() {
        fault("sitters", 0);
        fault("sit", 0);
        fault("s", 0);
        fault("Old", 0);
        fault("oldz", 0);
        fault("aold", 0);
        fault("bld", 0);
        fault("xitter", 0);
        fault("night 3", 0);
        fault("old fall 3", 4);
        fault("tall 3", 0);
        fault("5", 0);
        fault(";", 0);
        fault("old old", 4);
        fault("old talls 3", 4);
        fault("old tall 3 tall 3", 11);
        fault("old still 3 tall 3", 12);
        fault("old coins 3 merry 3", 12);
        fault("old tall tall 3", 9);
        fault("old 3", 4);
        fault("light five", 6);
        fault("lightstool 5", 0);
        fault("light 5 stool 6", 8);
        fault("light 5 6", 8);
        fault("queue old", 6);
        fault("  dark", 2);
        fault("old; dark", 5);
    }

    private static void faultsOfNumbers() {
        fault("old tall 91", 9);
        fault("old still 10", 10);
        fault("old merry 10", 10);
        fault("old coins 1000", 10);
        fault("old coins 99999999999999999999", 10);
        fault("old coins 4294967296", 10);
        fault("stool 61", 6);
        fault("light 10", 6);
        fault("price 21", 6);
        fault("price 999", 6);
        fault("price 1000 x", 6);
    }

    private static void faultsOfEnds() {
        fault("", 0);
        fault("   ", 3);
        fault("old;", 4);
        fault("old; ", 5);
        fault("old tall", 8);
        fault("old tall 6 still  ", 18);
        fault("queue", 5);
        fault("light ", 6);
        fault("old;;", 4);
        fault(";old", 0);
        fault("light ;", 6);
        fault("old tall;", 8);
    }

    private static void faultsOfOtherBytes() {
        fault("@", 0);
        fault("old@", 3);
        fault("old\ttall 3", 3);
        fault("old\n", 3);
        fault("old" + (char) 0, 3);
        fault("light -1", 6);
        fault("light 3.5", 7);
        fault("old" + (char) 233, 3);
        fault("old tall 3" + (char) 255, 10);
        fault("ol" + (char) 228, 0);
        fault("old`", 3);
        fault("old{", 3);
        fault("old tall 3/", 10);
        fault("old tall 3:", 10);
    }

    private static void faultsOfQueues() {
        fault("queue 0", 6);
        fault("old;queue 1", 10);
        fault("old;queue 0 1", 12);
        fault("old;queue 0 0 0 0 0 0 0", 22);
        fault("old;queue 0 0 0 0 0 0 old", 22);
        fault("queue 0;old", 6);
        fault("old;queue ;", 10);
        fault("old;queue 8", 10);
        fault("old;queue 00;queue 01", 19);
    }

    private static void faultOfNinth() {
        String eight = "old;old;old;old;old;old;old;old";
        fine(eight, 8);
        fault(eight + ";old", 32);
        fault(eight + "; twin tall 999", 33);
        BoothFlash x = new BoothFlash();
        x.sitter(0, 60);
        due("one is there already", Check.read(x, eight), -1 - 28);
        due("one", x.count(1), 1);
        due("seven more", Check.read(x, eight.substring(4)), 7);
        due("none more", Check.read(x, "light 3;sitter"), -1 - 8);
    }

    private static void nothingChangesWithFault() {
        BoothFlash x = fine("old tall 33;queue 0;light 4", 3);
        x.image();
        due("fault", Check.read(x, "twin;queue 1 1 1;stool 3;light 1;price 9;dark"), -1 - 41);
        due("sitters", x.count(1), 1);
        due("tape", x.count(5), 0);
        due("stool", x.booth(0), 20);
        due("light", x.booth(1), 4);
        due("price", x.booth(2), 5);
        due("place 0", x.place(0), 0);
        due("place 1", x.place(1), -1);
        due("no finding", x.status(-1), 0);
        due("nor is it read again", x.text(), -1);
        x.go(7);
        due("a text takes no minute", Check.read(x, "light 3"), 1);
        due("minute", x.now(0), 7);
        due("coins", x.of(0, 4), 20 - 5 - 5 + 3);
    }

    private static void greatestTape() {
        StringBuilder text = new StringBuilder("light 3");
        while (text.length() < 120) {
            text.append(' ');
        }
        fine(text.toString(), 1);
        text.setCharAt(119, ';');
        fault(text.toString(), 120);
        text.setCharAt(119, '7');
        fault(text.toString(), 119);
        StringBuilder many = new StringBuilder();
        for (int i = 0; i < 15; i++) {
            many.append(i < 14 ? "light 4;" : "light 8");
        }
        due("fifteen items", fine(many.toString(), 15).booth(1), 8);
    }
}
