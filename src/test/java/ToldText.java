import java.util.ArrayList;
import java.util.List;
import java.util.regex.Matcher;
import java.util.regex.Pattern;

/** A TEXT read a second time: all its TOKENS first, then item by item. */
final class ToldText {
    private static final Pattern TOKEN = Pattern.compile("[a-z]+|[0-9]+|[^ ]", Pattern.DOTALL);
    private static final List<String> KINDS =
        List.of("sitter", "child", "glasses", "shy", "old", "twin", "baby");
    private static final String[] TRAITS = {"tall", "still", "merry", "coins"};
    private static final String[] PARTS = {"stool", "light", "price"};

    private static final class Fault extends RuntimeException {
        Fault() {
            super(null, null, false, false);
        }
    }

    final Model booth;
    int items;
    /** The place of the FAULT, or -1. */
    final int fault;
    private final List<String> tokens = new ArrayList<>();
    private final List<Integer> begins = new ArrayList<>();
    private int at;

    ToldText(String text, Model booth) {
        this.booth = booth;
        Matcher matcher = TOKEN.matcher(text);
        while (matcher.find()) {
            tokens.add(matcher.group());
            begins.add(matcher.start());
        }
        tokens.add("");
        begins.add(text.length());
        int place = -1;
        try {
            readAll();
        } catch (Fault f) {
            place = begins.get(at);
        }
        fault = place;
    }

    private void readAll() {
        readItem();
        items = 1;
        while (tokens.get(at).equals(";")) {
            at++;
            readItem();
            items++;
        }
        need(tokens.get(at).isEmpty());
    }

    private static void need(boolean so) {
        if (!so) {
            throw new Fault();
        }
    }

    private boolean isNumber(int most) {
        String token = tokens.get(at);
        return token.matches("[0-9]+") && new java.math.BigInteger(token).compareTo(
            java.math.BigInteger.valueOf(most)) <= 0;
    }

    private int number(int most) {
        need(isNumber(most));
        return Integer.parseInt(tokens.get(at++));
    }

    private void readItem() {
        String word = tokens.get(at);
        if (KINDS.contains(word)) {
            readSitter(KINDS.indexOf(word));
        } else if (word.equals("queue")) {
            readQueue();
        } else {
            int part = java.util.Arrays.asList(PARTS).indexOf(word);
            need(part >= 0);
            at++;
            int v = number(new int[] {60, 9, 20}[part]);
            booth.stool = part == 0 ? v : booth.stool;
            booth.light = part == 1 ? v : booth.light;
            booth.price = part == 2 ? v : booth.price;
        }
    }

    private void readSitter(int kind) {
        need(booth.many < 8);
        at++;
        int s = booth.add(kind, 60);
        for (int i = 0; i < TRAITS.length; i++) {
            if (tokens.get(at).equals(TRAITS[i])) {
                at++;
                booth.who[s][1 + i] = number(Model.MOST[1 + i]);
            }
        }
    }

    private void readQueue() {
        at++;
        booth.places[0] = number(booth.many - 1);
        for (int p = 1; p < 6 && isNumber(booth.many - 1); p++) {
            booth.places[p] = number(booth.many - 1);
        }
    }
}
