import java.lang.reflect.Method;
import java.util.ArrayList;
import java.util.Arrays;
import java.util.List;
import java.util.Random;

/** Random runs of calls on the class and on the model of the document: each answer must be the same. */
public final class RandomRunsTest {
    private static final int[] WILD = {Integer.MIN_VALUE, -65, -3, -2, -1, 0, 1, 2, 3, 4, 7, 8, 9, 10, 11, 12, 13, 15,
        16, 63, 64, 99, 100, 124, 125, 200, 255, 256, 511, 512, 999, 1000, 65535, 65536, 999999, 1000000,
        Integer.MAX_VALUE};

    private final Random random;
    private final WishWays real = new WishWays();
    private final Model model = new Model();
    private final List<String> log = new ArrayList<>();
    private int calls = 0;
    private int width;
    private int depthLimit;
    private int boxes;

    private RandomRunsTest(long seed) {
        random = new Random(seed);
        width = 1 + random.nextInt(6);
        depthLimit = 1 + random.nextInt(5);
        boxes = 1 + random.nextInt(8);
    }

    private static Method find(Class<?> type, String name) {
        for (Method m : type.getMethods()) {
            if (m.getName().equals(name) && m.getDeclaringClass() == type) {
                return m;
            }
        }
        throw new IllegalArgumentException(name);
    }

    private static long number(Object answer) {
        return answer instanceof Boolean b ? (b ? 1 : 0) : ((Integer) answer).longValue();
    }

    private void call(String name, Object... args) throws Exception {
        if (calls >= 512) {
            return;
        }
        calls++;
        long got = number(find(WishWays.class, name).invoke(real, args));
        long want = number(find(Model.class, name).invoke(model, args));
        log.add(name + Arrays.toString(args) + " -> " + got);
        if (got != want) {
            for (String line : log) {
                System.out.println(line);
            }
            throw new IllegalStateException(name + Arrays.toString(args) + " answered " + got + ", due is " + want);
        }
    }

    private int below(int n) {
        return random.nextInt(n);
    }

    private boolean chance(int percent) {
        return random.nextInt(100) < percent;
    }

    /** Mostly what is there, now and then what is not. */
    private int some(int n) {
        return chance(3) ? WILD[below(WILD.length)] : n <= 0 ? 0 : below(n);
    }

    private int aWish() {
        return some(Math.max(1, model.wishes.size()));
    }

    private int aBox() {
        return some(boxes);
    }

    private int aPattern(int told) {
        int n = 0;
        for (int i = 0; i < 3; i++) {
            n = 5 * n + (chance(told) ? 1 + below(4) : 0);
        }
        return chance(2) ? WILD[below(WILD.length)] : n;
    }

    private int aPacket() {
        return chance(3) ? WILD[below(WILD.length)] : 64 * below(boxes) + below(64);
    }

    // ---- texts

    private String field() {
        return new String[] {"a", "b", "c", "at"}[below(4)];
    }

    private String blank() {
        return chance(4) ? " ".repeat(1 + below(2)) : "";
    }

    private String atom() {
        int kind = below(10);
        if (kind == 0) {
            return "0";
        }
        if (kind == 1) {
            return "1";
        }
        String f = below(3) == 0 ? field() : "a";
        int value = below(f.equals("at") ? 8 : width > 3 ? 2 : 4);
        String sign = kind < 4 ? ":" : "=";
        return (kind == 9 ? "!" + blank() : "") + f + blank() + (kind == 9 ? "=" : sign) + blank() + value;
    }

    private String text(int depth) {
        StringBuilder s = new StringBuilder();
        int terms = 1 + below(width);
        for (int i = 0; i < terms; i++) {
            s.append(i == 0 ? "" : chance(50) ? "+" : ";").append(blank());
            if (depth < depthLimit && chance(35)) {
                s.append("(").append(text(depth + 1)).append(")");
            } else {
                s.append(atom());
            }
            s.append(blank());
            while (chance(15)) {
                s.append("*").append(blank());
            }
        }
        return s.toString();
    }

    private String spoilt(String text) {
        StringBuilder s = new StringBuilder(text);
        String signs = "()+;*=:!abct019 47zA%\u0000\u00ff";
        for (int n = 1 + below(2); n > 0; n--) {
            char sign = signs.charAt(below(signs.length()));
            int at = s.length() == 0 ? 0 : below(s.length());
            if (s.length() > 0 && chance(40)) {
                s.setCharAt(at, sign);
            } else if (s.length() > 0 && chance(40)) {
                s.deleteCharAt(at);
            } else {
                s.insert(at, sign);
            }
        }
        return s.toString();
    }

    private void putText(String text) throws Exception {
        String fits = text.length() > 200 ? text.substring(0, 200) : text;
        call("end", 0);
        int sent = 0;
        while (sent < fits.length()) {
            int[] n = new int[5];
            for (int i = 0; i < 20; i++) {
                int b = sent + i < fits.length() ? fits.charAt(sent + i) & 255 : below(256);
                n[i / 4] = n[i / 4] << 8 | b;
            }
            call("feed", n[0], n[1], n[2], n[3], n[4]);
            sent += 20;
        }
        call("end", fits.length());
    }

    /** Turns a field's values round: many rows are needed for that. */
    private String turned(String f) {
        int by = 1 + below(3);
        StringBuilder s = new StringBuilder("(");
        for (int i = 0; i < 4; i++) {
            s.append(i == 0 ? "" : "+").append(f).append("=").append(i).append(";").append(f).append(":");
            s.append((i + by) % 4);
        }
        return s.append(")").toString();
    }

    private void aText() throws Exception {
        if (chance(10)) {
            String text = turned("a") + (chance(60) ? ";" + turned("b") : "") + (chance(20) ? ";" + turned("c") : "");
            putText(text + (chance(50) ? ";at:" + below(8) : "") + (chance(10) ? "*" : ""));
            call("wish", below(4));
            return;
        }
        String text = chance(8) ? text(0) + ";" + text(0) + "+" + text(0) + ";" + text(0) : text(0);
        if (chance(5)) {
            text = "(".repeat(1 + below(11)) + text;
            text = text + ")".repeat(below(11));
        }
        if (chance(4)) {
            text = "1+".repeat(36 + below(6)) + text;
        }
        putText(chance(25) ? spoilt(text) : text);
        call("wish", chance(3) ? WILD[below(WILD.length)] : below(4));
    }

    private void texts() throws Exception {
        while (calls < 300) {
            switch (below(13)) {
                case 0, 1 -> aText();
                case 2 -> call("makes", aWish(), aPacket(), below(8) - 1);
                case 3 -> call("of", aWish(), some(3));
                case 4 -> call("parts", aWish(), aWish(), some(3));
                case 5 -> call("within", aWish(), aWish());
                case 6 -> call("right", some(4), some(256), some(16), some(16), some(16));
                case 7 -> call("breaks", aWish());
                case 8 -> call("quarrel", aWish(), aWish());
                case 9 -> call("rank", some(4), some(10));
                case 10 -> call("joined", aPacket(), some(3));
                default -> {
                    call("tell", aWish(), chance(60));
                    for (int i = 0; i < model.out.length() && calls < 300; i++) {
                        call("octet", i);
                    }
                    call("octet", some(200));
                }
            }
            call("count", some(8));
        }
    }

    // ---- tables

    private void aRow(int version, int box, int told, int set) throws Exception {
        int to = chance(60) ? below(boxes) : chance(70) ? 8 : chance(80) ? 9 : some(10);
        call("row", version, box, aPattern(told), aPattern(set), to);
    }

    /** Counts c, b, a up, a step each, so that ways get long; then goes on. */
    private void aCounter(int version, int box, int to) throws Exception {
        for (int v = 0; v < 3; v++) {
            call("row", version, box, 1 + v, 2 + v, box);
        }
        for (int v = 0; v < 3; v++) {
            call("row", version, box, 5 * (1 + v) + 4, 5 * (2 + v) + 1, box);
        }
        for (int v = 0; v < 3; v++) {
            call("row", version, box, 25 * (1 + v) + 24, 25 * (2 + v) + 6, box);
        }
        call("row", version, box, 124, 31, to);
    }

    private void fillTables(int told, int set) throws Exception {
        for (int box = 0; box < boxes; box++) {
            if (chance(10)) {
                aCounter(below(2), box, chance(50) ? 8 : below(boxes));
            }
            for (int n = below(5); n > 0; n--) {
                aRow(below(2), box, told, set);
            }
            if (chance(60)) {
                call("row", 0, box, 0, 0, chance(40) ? 8 : below(boxes));
            }
        }
    }

    private void tables() throws Exception {
        int told = 10 + below(70);
        int set = below(60);
        if (chance(80)) {
            fillTables(told, set);
        }
        while (calls < 250) {
            switch (below(17)) {
                case 0, 1, 2, 3 -> aRow(some(2), aBox(), told, set);
                case 4 -> call("erase", some(2), chance(30) ? aBox() : below(8));
                case 5 -> call("line", aBox(), aBox(), chance(40));
                case 6 -> call("entries", chance(30) ? 1 << below(8) : some(256));
                case 7, 8 -> {
                    call("ends", aPacket(), some(256));
                    for (int k = -1; k <= Math.min(model.way.size(), 9); k++) {
                        call("way", k);
                    }
                }
                case 9 -> call("packed", some(2), aBox());
                case 10 -> {
                    call("worst", chance(90) ? 1 + below(2) : some(4));
                    call("falls", 0);
                    call("falls", 1);
                    call("falls", 2);
                }
                case 11 -> {
                    if (model.wishes.size() < 12) {
                        aText();
                    }
                }
                case 12, 13 -> {
                    int version = below(2);
                    int box = aBox();
                    int wish = aWish();
                    call("make", wish, version, box);
                    for (int k = 0; k < 12; k++) {
                        call("rows", version, box, k, below(3));
                    }
                    call("packed", version, box);
                    if (box >= 0 && box < 8 && chance(60)) {
                        call("entries", 1 << box);
                        call("shown", wish, version == 0 ? 0 : 255);
                    }
                }
                case 14 -> call("shown", aWish(), some(256));
                case 15 -> call("guessed", some(256));
                default -> call("rows", some(2), aBox(), some(12), some(3));
            }
            call("count", some(8));
        }
    }

    // ---- writing over

    /** Counts c up first, a step each, so that packets stay in a box for a while. */
    private void aDelay(int version, int box) throws Exception {
        int steps = 1 + below(5);
        for (int v = 0; v < Math.min(steps, 3); v++) {
            call("row", version, box, 1 + v, 2 + v, box);
        }
        for (int v = 0; v < steps - 3; v++) {
            call("row", version, box, 5 * (1 + v) + 4, 5 * (2 + v) + 1, box);
        }
    }

    /** A chain of boxes in some order, with a box that sends a packet away or holds it up now and then. */
    private void aChain(int version, int told, int set, int slow) throws Exception {
        List<Integer> chain = new ArrayList<>();
        for (int box = 1; box < boxes; box++) {
            chain.add(box);
        }
        java.util.Collections.shuffle(chain, random);
        int length = below(boxes);
        int at = 0;
        for (int i = 0; i < length; i++) {
            if (chance(told)) {
                call("row", version, at, aPattern(40), aPattern(set), chance(50) ? 8 : chain.get(below(chain.size())));
            }
            if (chance(slow)) {
                aDelay(version, at);
            }
            call("row", version, at, 0, chance(set) ? aPattern(30) : 0, chain.get(i));
            at = chain.get(i);
        }
        call("row", version, at, 0, 0, 8);
    }

    private void rollouts() throws Exception {
        boxes = 3 + below(6);
        int told = chance(50) ? 0 : below(40);
        int set = chance(50) ? 0 : below(15);
        if (chance(5)) {
            aCounter(below(2), 0, 1);
            aCounter(below(2), 1, 8);
        }
        int slow = chance(60) ? 0 : 20 + below(50);
        aChain(0, told, set, slow);
        aChain(1, told, set, slow);
        call("entries", chance(70) ? 1 + below(3) : some(256));
        while (calls < 160) {
            switch (below(12)) {
                case 0, 1 -> {
                    call("writes");
                    for (int k = 0; k < 4; k++) {
                        call("written", k);
                    }
                    call("gap");
                }
                case 2 -> call("gap");
                case 3, 4 -> call("write", aBox(), chance(10) ? some(1000) : chance(20) ? -1 : below(12));
                case 5, 6 -> call("seen", aPacket(), chance(10) ? some(1000) : below(12));
                case 7 -> {
                    int tick = chance(10) ? some(1000) : below(12);
                    call("neither", tick, -1);
                    call("neither", tick, below(20) - 2);
                }
                case 8 -> {
                    int version = below(2);
                    int box = below(boxes);
                    call("erase", version, box);
                    call("row", version, box, aPattern(told), 0, chance(60) ? Math.min(box + 1, 8) : 8);
                }
                case 9 -> call("line", aBox(), aBox(), chance(30));
                case 10 -> call("entries", 1 + below(7));
                default -> {
                    if (chance(30)) {
                        call("renew");
                    } else {
                        call("written", some(8));
                    }
                }
            }
            call("count", 5);
        }
    }

    // ---- room, counts, cables

    private void books() throws Exception {
        int most = 1 + below(20);
        while (calls < 250) {
            switch (below(13)) {
                case 0 -> {
                    putText(atom());
                    call("wish", below(4));
                }
                case 1, 2 -> call("needs", aWish(), some(8), some(most));
                case 3 -> call("worth", 0, aWish(), some(most));
                case 4 -> call("worth", some(3), some(8), some(4 * most));
                case 5 -> {
                    call("kept", 0);
                    call("kept", some(2));
                }
                case 6, 7 -> call("counts", some(8), some(8), chance(50), some(3));
                case 8 -> call("liars");
                case 9 -> {
                    if (model.cables.size() < 11 || chance(5)) {
                        call("cable", some(boxes), some(boxes));
                    }
                }
                case 10 -> call("edges", chance(50) ? 0 : some(256));
                case 11 -> call("known", some(1 << model.cables.size()));
                default -> call("taps", some(1 << model.cables.size()));
            }
            call("count", some(8));
        }
    }

    // ---- anything at all

    private void wild() throws Exception {
        List<Method> methods = new ArrayList<>();
        for (Method m : WishWays.class.getMethods()) {
            if (m.getDeclaringClass() == WishWays.class) {
                methods.add(m);
            }
        }
        methods.sort((x, y) -> x.getName().compareTo(y.getName()));
        while (calls < 500) {
            Method m = methods.get(below(methods.size()));
            Object[] args = new Object[m.getParameterCount()];
            for (int i = 0; i < args.length; i++) {
                int pick = chance(30) ? WILD[below(WILD.length)] : below(10) - 1;
                args[i] = m.getParameterTypes()[i] == boolean.class ? (Object) chance(50) : (Object) pick;
            }
            if (m.getName().equals("feed") && chance(50)) {
                aText();
            } else {
                call(m.getName(), args);
            }
        }
    }

    public static void main(String[] args) throws Exception {
        int runs = args.length > 1 ? Integer.parseInt(args[1]) : 60;
        long start = args.length > 2 ? Long.parseLong(args[2]) : 0;
        long calls = 0;
        for (int kind = 0; kind < 5; kind++) {
            for (int run = 0; run < runs; run++) {
                long seed = start + 1000L * run + kind;
                RandomRunsTest test = new RandomRunsTest(seed);
                try {
                    switch (kind) {
                        case 0 -> test.texts();
                        case 1 -> test.tables();
                        case 2 -> test.rollouts();
                        case 3 -> test.books();
                        default -> test.wild();
                    }
                } catch (Exception e) {
                    System.out.println("seed " + seed + ", kind " + kind + ": " + e);
                    e.printStackTrace(System.out);
                    System.exit(1);
                }
                calls += test.calls;
            }
        }
        System.out.println("RandomRunsTest: " + calls + " answers as due");
    }
}
