import java.nio.charset.StandardCharsets;
import java.util.Arrays;

/** What the tests share: answers held against what is due, and texts put on the tape. */
final class Checks {
    private int right = 0;
    private int wrong = 0;
    private String promise = "";
    // Of the sentence that is being tested; ahead of the first sentence none is missed.
    private int answers = 1;

    void promise(int number) {
        promise = "promise " + number;
    }

    /** What follows tests one sentence of the document; each needs an answer of its own. */
    void sentence(String words) {
        closeSentence();
        promise = words;
        answers = 0;
    }

    private void closeSentence() {
        if (answers == 0) {
            wrong++;
            System.out.println(promise + ": nothing is tested");
        }
    }

    /** Something that has to be so, but is no answer. */
    void known(String what, boolean isSo) {
        if (!isSo) {
            wrong++;
            System.out.println(promise + ": not so: " + what);
        }
    }

    void due(String call, long got, long want) {
        answers++;
        if (got == want) {
            right++;
        } else {
            wrong++;
            System.out.println(promise + ": " + call + " answered " + got + ", due is " + want);
        }
    }

    void due(String call, boolean got, boolean want) {
        due(call, got ? 1 : 0, want ? 1 : 0);
    }

    void due(String call, String got, String want) {
        if (!got.equals(want)) {
            System.out.println(promise + ": " + call + " answered '" + got + "', due is '" + want + "'");
        }
        due(call + " as text", got.equals(want), true);
    }

    void finish(String name) {
        closeSentence();
        System.out.println(name + ": " + right + " answers as due, " + wrong + " not");
        System.exit(wrong == 0 ? 0 : 1);
    }

    /** Puts a text behind the tape (200 bytes at most in all). */
    static void put(WishWays x, String text) {
        byte[] bytes = text.getBytes(StandardCharsets.ISO_8859_1);
        int had = x.count(4);
        for (int i = 0; i < bytes.length; i += 20) {
            byte[] part = Arrays.copyOf(Arrays.copyOfRange(bytes, i, Math.min(i + 20, bytes.length)), 20);
            java.nio.IntBuffer n = java.nio.ByteBuffer.wrap(part).asIntBuffer();
            x.feed(n.get(0), n.get(1), n.get(2), n.get(3), n.get(4));
            x.end(had + Math.min(i + 20, bytes.length));
        }
    }

    static int wish(WishWays x, int house, String text) {
        put(x, text);
        return x.wish(house);
    }

    /** What a text with a fault answers. */
    static int fault(int place, int kind) {
        return -2 - (1 + 8 * place + kind);
    }

    static String told(WishWays x, int wish, boolean shorter) {
        int n = x.tell(wish, shorter);
        StringBuilder text = new StringBuilder();
        for (int i = 0; i < n; i++) {
            text.append((char) x.octet(i));
        }
        return text.toString();
    }

    static int match(int a, int b, int c) {
        return 25 * (a + 1) + 5 * (b + 1) + c + 1;
    }
}
