import java.util.ArrayList;
import java.util.List;
import java.util.function.IntUnaryOperator;

/** What the tests of the document's single sentences share. */
abstract class Edges {
    static final int NONE = WishWays.NONE;
    static final int ANY = -1;

    private final Checks checks;
    private final Doc doc;

    Edges(Checks checks, Doc doc) {
        this.checks = checks;
        this.doc = doc;
    }

    abstract void all();

    /** What follows tests these words of a promise. */
    final void says(int promise, String words) {
        checks.sentence("promise " + promise + ", \"" + words + "\"");
        checks.known("the document says so", doc.speakOf(promise, words));
    }

    /** What follows tests these words of the terms. */
    final void term(String words) {
        checks.sentence("terms, \"" + words + "\"");
        checks.known("the document says so", doc.speakOf(0, words));
    }

    final void due(String call, long got, long want) {
        checks.due(call, got, want);
    }

    final void due(String call, boolean got, boolean want) {
        checks.due(call, got, want);
    }

    final void due(String call, String got, String want) {
        checks.due(call, got, want);
    }

    /**
     * Numbers below the least and above the most: the next ones, the farthest ones, and those that a shift, a
     * product or a cut to fewer bits would bring back among the good ones.
     */
    static int[] outside(int least, int most) {
        List<Integer> all = new ArrayList<>(List.of(Integer.MIN_VALUE, Integer.MIN_VALUE + 1, Integer.MAX_VALUE));
        all.add(least - 1);
        all.add(least - 2);
        all.add(most + 1);
        all.add(most + 2);
        for (int bit = 3; bit < 32; bit++) {
            all.add((1 << bit) + least);
            all.add((1 << bit) + most);
            all.add(least - (1 << bit));
        }
        return all.stream().mapToInt(n -> n).filter(n -> n < least || n > most).distinct().toArray();
    }

    /** A call is refused with each number outside of these bounds. */
    final void refused(String what, int least, int most, int answer, IntUnaryOperator call) {
        for (int n : outside(least, most)) {
            due(what + " " + n, call.applyAsInt(n), answer);
        }
    }

    /** An object with these wishes, all of house 0. */
    static WishWays with(String... texts) {
        WishWays x = new WishWays();
        for (String text : texts) {
            Checks.wish(x, 0, text);
        }
        return x;
    }

    /** What the first wish makes of a packet, as a text. */
    static String made(WishWays x, int wish, int packet) {
        StringBuilder s = new StringBuilder();
        for (int k = 0; k < x.makes(wish, packet, NONE); k++) {
            s.append(k == 0 ? "" : " ").append(x.makes(wish, packet, k));
        }
        return s.toString();
    }

    static int packet(int place, int a, int b, int c) {
        return 64 * place + 16 * a + 4 * b + c;
    }

    static int match(int a, int b, int c) {
        return Checks.match(a, b, c);
    }
}
