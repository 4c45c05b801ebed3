/** Counts the answers that are not the ones that are due, and prints them. */
final class Check {
    static final int BEYOND = -1000001;
    static final int FULL = -1000002;
    static final int KIND = -1000003;
    static final int NONE = -1000004;
    static final int STATE = -1000005;
    static final int MISSING = -1000006;
    static final int SIZE = -1000007;

    private final String name;
    private int asked;
    private int wrong;

    Check(String name) {
        this.name = name;
    }

    void due(String call, long got, long want) {
        asked++;
        if (got != want) {
            wrong++;
            if (wrong <= 50) {
                System.out.println(name + ": " + call + " answered " + got + ", due is " + want);
            }
        }
    }

    void isTrue(String what, boolean so) {
        due(what, so ? 1 : 0, 1);
    }

    /** The last call of a main method. */
    void end() {
        System.out.println(name + ": " + asked + " answers, " + wrong + " not as due");
        if (wrong != 0) {
            System.exit(1);
        }
    }

    /** THE TAPE gets a text's signs, byte by byte. */
    static void feed(BoothFlash x, String text) {
        for (int i = 0; i < text.length(); i++) {
            x.feed(text.charAt(i), 1);
        }
    }

    static int read(BoothFlash x, String text) {
        feed(x, text);
        return x.text();
    }

    /** Sheet s holds these numbers, of 32 bits. */
    static void fill(BoothFlash x, int s, int... numbers) {
        x.sheet(s, 32, numbers.length);
        for (int i = 0; i < numbers.length; i++) {
            x.write(s, i, numbers[i]);
        }
    }
}
