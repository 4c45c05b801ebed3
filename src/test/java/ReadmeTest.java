/** The calls that README.md shows, and what it says that they answer. */
public final class ReadmeTest {
    public static void main(String[] args) {
        Check check = new Check("ReadmeTest");
        BoothFlash x = new BoothFlash();
        int child = x.sitter(1, 54);
        check.due("sitter", child, 0);
        check.due("queue", x.queue(0, child), -1);
        check.due("faults", x.faults(child, 3), 7);
        check.due("when", x.when(child, 1), 1);
        check.due("go", x.go(6), 1);
        check.due("booth", x.booth(3), 5);
        for (char c : "shy tall 62 merry 0; queue 1 0; light 6".toCharArray()) {
            x.feed(c, 1);
        }
        check.due("text", x.text(), 3);
        check.due("place", x.place(0), 1);
        check.due("status", x.status(-1), 0);
        check.end();
    }
}
