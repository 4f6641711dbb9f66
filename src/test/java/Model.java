import java.util.ArrayList;
import java.util.Arrays;
import java.util.BitSet;
import java.util.HashMap;
import java.util.List;
import java.util.Map;
import java.util.TreeMap;

/**
 * The document read a second time, as plainly and slowly as can be (sets, brute force, tries of everything), so
 * that random runs can hold the class against it. Shares no code with it.
 */
public final class Model {
    static final int NONE = -1;

    // ---- I. texts

    record Node(String sign, String field, int value, Node left, Node right) {
        static Node atom(String sign, String field, int value) {
            return new Node(sign, field, value, null, null);
        }

        static Node join(String sign, Node left, Node right) {
            return new Node(sign, "", 0, left, right);
        }
    }

    static final class Fault extends RuntimeException {
        private static final long serialVersionUID = 1;
        final int place;
        final int kind;

        Fault(int place, int kind) {
            this.place = place;
            this.kind = kind;
        }
    }

    record Token(String text, int place) {
        boolean is(String other) {
            return text.equals(other);
        }
    }

    static List<Token> tokens(String text) {
        List<Token> all = new ArrayList<>();
        java.util.regex.Matcher m =
                java.util.regex.Pattern.compile("[a-z]+|[0-9]+|[^ ]", java.util.regex.Pattern.DOTALL).matcher(text);
        while (m.find()) {
            all.add(new Token(m.group(), m.start()));
        }
        all.add(new Token("", text.length()));
        return all;
    }

    static final class Parser {
        final List<Token> tokens;
        final boolean bounded;
        int i = 0;
        int open = 0;
        int atoms = 0;

        Parser(String text, boolean bounded) {
            tokens = tokens(text);
            this.bounded = bounded;
        }

        Token peek() {
            return tokens.get(i);
        }

        Token next() {
            return tokens.get(i++);
        }

        Node whole() {
            Node n = wish();
            if (!peek().is("")) {
                throw new Fault(peek().place(), 0);
            }
            return n;
        }

        Node wish() {
            Node n = sequence();
            while (peek().is("+")) {
                next();
                n = Node.join("+", n, sequence());
            }
            return n;
        }

        Node sequence() {
            Node n = factor();
            while (peek().is(";")) {
                next();
                n = Node.join(";", n, factor());
            }
            return n;
        }

        Node factor() {
            Node n = atom();
            while (peek().is("*")) {
                next();
                n = Node.join("*", n, null);
            }
            return n;
        }

        Node atom() {
            Token t = peek();
            if (t.is("(")) {
                if (bounded && open == 8) {
                    throw new Fault(t.place(), 2);
                }
                open++;
                next();
                Node n = wish();
                expect(")");
                open--;
                return n;
            }
            boolean starts = t.is("0") || t.is("1") || t.is("!") || isField(t);
            if (!starts) {
                throw new Fault(t.place(), 0);
            }
            atoms++;
            if (bounded && atoms == 41) {
                throw new Fault(t.place(), 3);
            }
            next();
            if (t.is("0") || t.is("1")) {
                return Node.atom(t.text(), "", 0);
            }
            if (t.is("!")) {
                Token f = peek();
                if (!isField(f)) {
                    throw new Fault(f.place(), 0);
                }
                next();
                expect("=");
                return Node.atom("!=", f.text(), number(f.text()));
            }
            Token sign = peek();
            if (!sign.is("=") && !sign.is(":")) {
                throw new Fault(sign.place(), 0);
            }
            next();
            return Node.atom(sign.text(), t.text(), number(t.text()));
        }

        static boolean isField(Token t) {
            return List.of("a", "b", "c", "at").contains(t.text());
        }

        void expect(String sign) {
            if (!peek().is(sign)) {
                throw new Fault(peek().place(), 0);
            }
            next();
        }

        int number(String field) {
            Token t = peek();
            if (t.text().isEmpty() || !Character.isDigit(t.text().charAt(0))) {
                throw new Fault(t.place(), 0);
            }
            if (t.text().length() > 1 || Integer.parseInt(t.text()) > (field.equals("at") ? 7 : 3)) {
                throw new Fault(t.place(), 1);
            }
            next();
            return Integer.parseInt(t.text());
        }
    }

    static int field(int packet, String field) {
        return switch (field) {
            case "a" -> packet / 16 % 4;
            case "b" -> packet / 4 % 4;
            case "c" -> packet % 4;
            default -> packet / 64;
        };
    }

    static int change(int packet, String field, int value) {
        int weight = switch (field) {
            case "a" -> 16;
            case "b" -> 4;
            case "c" -> 1;
            default -> 64;
        };
        return packet + weight * (value - field(packet, field));
    }

    static BitSet eval(Node n, BitSet in) {
        BitSet out = new BitSet();
        switch (n.sign()) {
            case "0":
                return out;
            case "1":
                return (BitSet) in.clone();
            case "=":
                in.stream().filter(p -> field(p, n.field()) == n.value()).forEach(out::set);
                return out;
            case "!=":
                in.stream().filter(p -> field(p, n.field()) != n.value()).forEach(out::set);
                return out;
            case ":":
                in.stream().forEach(p -> out.set(change(p, n.field(), n.value())));
                return out;
            case "+":
                out.or(eval(n.left(), in));
                out.or(eval(n.right(), in));
                return out;
            case ";":
                return eval(n.right(), eval(n.left(), in));
            default:
                out.or(in);
                while (true) {
                    BitSet more = eval(n.left(), out);
                    more.or(out);
                    if (more.equals(out)) {
                        return out;
                    }
                    out.or(more);
                }
        }
    }

    static final class Wish {
        int house;
        Node tree;
        BitSet[] made = new BitSet[512];
        int[] needs = new int[8];
        int worth;
    }

    final List<Integer> tape = new ArrayList<>();
    final List<Wish> wishes = new ArrayList<>();
    final int[][] right = new int[4][];
    final int[] ranks = new int[4];

    public Model() {
        for (int h = 0; h < 4; h++) {
            right[h] = new int[] {255, 15, 15, 15};
        }
        for (int v = 0; v < 2; v++) {
            for (int b = 0; b < 8; b++) {
                tables[v][b] = new ArrayList<>();
            }
        }
        Arrays.fill(ticks, NONE);
    }

    public int feed(int a, int b, int c, int d, int e) {
        if (tape.size() + 20 > 200) {
            return NONE;
        }
        java.nio.ByteBuffer bytes = java.nio.ByteBuffer.allocate(20);
        bytes.putInt(a).putInt(b).putInt(c).putInt(d).putInt(e);
        for (byte one : bytes.array()) {
            tape.add(one & 255);
        }
        return tape.size();
    }

    public int end(int n) {
        if (n < 0 || n > tape.size()) {
            return NONE;
        }
        while (tape.size() > n) {
            tape.remove(tape.size() - 1);
        }
        return n;
    }

    public int wish(int house) {
        if (wishes.size() == 12 || house < 0 || house > 3) {
            return NONE;
        }
        StringBuilder text = new StringBuilder();
        tape.forEach(b -> text.append((char) b.intValue()));
        tape.clear();
        Wish w = new Wish();
        try {
            w.tree = new Parser(text.toString(), true).whole();
        } catch (Fault f) {
            return -2 - (1 + 8 * f.place + f.kind);
        }
        w.house = house;
        for (int p = 0; p < 512; p++) {
            BitSet one = new BitSet();
            one.set(p);
            w.made[p] = eval(w.tree, one);
        }
        wishes.add(w);
        return wishes.size() - 1;
    }

    Wish at(int w) {
        return w >= 0 && w < wishes.size() ? wishes.get(w) : null;
    }

    static boolean in(int n, int least, int most) {
        return n >= least && n <= most;
    }

    public int makes(int wish, int packet, int k) {
        if (at(wish) == null || !in(packet, 0, 511)) {
            return NONE;
        }
        int[] all = at(wish).made[packet].stream().toArray();
        return k == NONE ? all.length : in(k, 0, all.length - 1) ? all[k] : NONE;
    }

    public int of(int wish, int what) {
        if (at(wish) == null || !in(what, 0, 2)) {
            return NONE;
        }
        int n = 0;
        for (int p = 0; p < 512; p++) {
            BitSet m = at(wish).made[p];
            boolean counts = what == 0 ? !m.isEmpty() : what == 1 ? m.get(p) && m.cardinality() == 1 : m.cardinality() > 1;
            n += counts ? 1 : 0;
        }
        return n;
    }

    // ---- II. wishes held against one another

    public int parts(int a, int b, int what) {
        if (at(a) == null || at(b) == null || !in(what, 0, 2)) {
            return -2;
        }
        for (int p = 0; p < 512; p++) {
            for (int q = 0; q < 512; q++) {
                boolean one = at(a).made[p].get(q);
                if (one != at(b).made[p].get(q)) {
                    return what == 0 ? p : what == 1 ? q : one ? 0 : 1;
                }
            }
        }
        return NONE;
    }

    public int within(int a, int b) {
        if (at(a) == null || at(b) == null) {
            return NONE;
        }
        for (int p = 0; p < 512; p++) {
            BitSet rest = (BitSet) at(a).made[p].clone();
            rest.andNot(at(b).made[p]);
            if (!rest.isEmpty()) {
                return 0;
            }
        }
        return 1;
    }

    public boolean right(int house, int places, int a, int b, int c) {
        if (!in(house, 0, 3) || !in(places, 0, 255) || !in(a, 0, 15) || !in(b, 0, 15) || !in(c, 0, 15)) {
            return false;
        }
        right[house] = new int[] {places, a, b, c};
        return true;
    }

    public int breaks(int wish) {
        if (at(wish) == null) {
            return -2;
        }
        int[] r = right[at(wish).house];
        for (int p = 0; p < 512; p++) {
            boolean isIn = (r[0] >> field(p, "at") & 1) == 1 && (r[1] >> field(p, "a") & 1) == 1
                    && (r[2] >> field(p, "b") & 1) == 1 && (r[3] >> field(p, "c") & 1) == 1;
            if (!isIn && !at(wish).made[p].isEmpty()) {
                return p;
            }
        }
        return NONE;
    }

    public int quarrel(int a, int b) {
        if (at(a) == null || at(b) == null) {
            return -2;
        }
        for (int p = 0; p < 512; p++) {
            BitSet one = at(a).made[p];
            BitSet other = at(b).made[p];
            if (!one.isEmpty() && !other.isEmpty() && !one.equals(other)) {
                return p;
            }
        }
        return NONE;
    }

    public int rank(int house, int n) {
        if (!in(house, 0, 3) || !in(n, 0, 9)) {
            return NONE;
        }
        int was = ranks[house];
        ranks[house] = n;
        return was;
    }

    public int joined(int packet, int what) {
        if (!in(packet, 0, 511) || !in(what, 0, 2)) {
            return NONE;
        }
        List<Integer> order = new ArrayList<>();
        for (int w = 0; w < wishes.size(); w++) {
            order.add(w);
        }
        order.sort((x, y) -> ranks[at(y).house] != ranks[at(x).house]
                ? Integer.compare(ranks[at(y).house], ranks[at(x).house]) : Integer.compare(x, y));
        for (int w : order) {
            BitSet m = at(w).made[packet];
            if (!m.isEmpty()) {
                return what == 0 ? w : what == 1 ? m.cardinality() : m.nextSetBit(0);
            }
        }
        return what == 1 ? 0 : NONE;
    }

    // ---- III. tables

    record Row(int match, int sets, int to) {
        boolean matches(int packet) {
            int[] told = {match / 25, match / 5 % 5, match % 5};
            int[] has = {field(packet, "a"), field(packet, "b"), field(packet, "c")};
            for (int i = 0; i < 3; i++) {
                if (told[i] != 0 && told[i] != has[i] + 1) {
                    return false;
                }
            }
            return true;
        }

        int set(int packet) {
            int p = packet;
            p = sets / 25 > 0 ? change(p, "a", sets / 25 - 1) : p;
            p = sets / 5 % 5 > 0 ? change(p, "b", sets / 5 % 5 - 1) : p;
            return sets % 5 > 0 ? change(p, "c", sets % 5 - 1) : p;
        }
    }

    @SuppressWarnings({"unchecked", "rawtypes"})
    final List<Row>[][] tables = new List[2][8];
    final boolean[][] fallen = new boolean[8][8];
    int entries = 255;
    List<Integer> way = new ArrayList<>();

    static boolean table(int version, int box) {
        return in(version, 0, 1) && in(box, 0, 7);
    }

    public int row(int version, int box, int match, int sets, int to) {
        if (!table(version, box) || !in(match, 0, 124) || !in(sets, 0, 124) || !in(to, 0, 9)
                || tables[version][box].size() == 12) {
            return NONE;
        }
        tables[version][box].add(new Row(match, sets, to));
        return tables[version][box].size() - 1;
    }

    public int erase(int version, int box) {
        if (!table(version, box)) {
            return NONE;
        }
        int had = tables[version][box].size();
        tables[version][box].clear();
        return had;
    }

    List<Integer> unlike() {
        List<Integer> boxes = new ArrayList<>();
        for (int b = 0; b < 8; b++) {
            if (!tables[0][b].equals(tables[1][b])) {
                boxes.add(b);
            }
        }
        return boxes;
    }

    public int renew() {
        int n = unlike().size();
        for (int b = 0; b < 8; b++) {
            tables[0][b] = new ArrayList<>(tables[1][b]);
        }
        return n;
    }

    public boolean line(int from, int to, boolean down) {
        if (!in(from, 0, 7) || !in(to, 0, 7) || from == to || fallen[from][to] == down) {
            return false;
        }
        fallen[from][to] = down;
        return true;
    }

    public int entries(int places) {
        if (!in(places, 0, 255)) {
            return NONE;
        }
        int was = entries;
        entries = places;
        return was;
    }

    /** A packet's next packet, or 1000 + what it ends as, or -2; the row's number is put into the list. */
    int step(int p, int version, List<Integer> rows) {
        int box = p / 64;
        List<Row> table = tables[version][box];
        for (int i = 0; i < table.size(); i++) {
            Row r = table.get(i);
            if (r.matches(p)) {
                rows.add(16 * box + i);
                int then = r.set(p);
                if (r.to() == 8) {
                    return 1000 + then;
                }
                if (r.to() == 9 || fallen[box][r.to()]) {
                    return -2;
                }
                return change(then, "at", r.to());
            }
        }
        rows.add(-2);
        return -2;
    }

    int walk(int packet, int boxes, List<Integer> rows) {
        List<Integer> seen = new ArrayList<>();
        int p = packet;
        while (true) {
            if (seen.contains(p)) {
                return -3;
            }
            seen.add(p);
            int next = step(p, boxes >> (p / 64) & 1, rows);
            if (next >= 1000) {
                return next - 1000;
            }
            if (next < 0) {
                return -2;
            }
            p = next;
        }
    }

    int walk(int packet, int boxes) {
        return walk(packet, boxes, new ArrayList<>());
    }

    public int ends(int packet, int boxes) {
        if (!in(packet, 0, 511) || !in(boxes, 0, 255)) {
            return NONE;
        }
        way = new ArrayList<>();
        return walk(packet, boxes, way);
    }

    public int way(int k) {
        return in(k, 0, way.size() - 1) ? way.get(k) : NONE;
    }

    boolean entry(int p) {
        return (entries >> (p / 64) & 1) == 1;
    }

    // ---- IV. shown, packed, written, worst

    public int shown(int wish, int boxes) {
        if (at(wish) == null || !in(boxes, 0, 255)) {
            return -2;
        }
        for (int p = 0; p < 512; p++) {
            if (entry(p)) {
                BitSet due = new BitSet();
                int end = walk(p, boxes);
                if (end >= 0) {
                    due.set(end);
                }
                if (!due.equals(at(wish).made[p])) {
                    return p;
                }
            }
        }
        return NONE;
    }

    public int guessed(int boxes) {
        if (!in(boxes, 0, 255)) {
            return NONE;
        }
        int bits = 0;
        for (int w = 0; w < wishes.size(); w++) {
            bits |= shown(w, boxes) == NONE ? 1 << w : 0;
        }
        return bits;
    }

    static String deed(List<Row> table, int some, int p) {
        for (int i = 0; i < table.size(); i++) {
            if ((some >> i & 1) == 1 && table.get(i).matches(p)) {
                Row r = table.get(i);
                return r.to() == 9 ? "lost" : r.set(p) + " to " + r.to();
            }
        }
        return "lost";
    }

    public int packed(int version, int box) {
        if (!table(version, box)) {
            return NONE;
        }
        List<Row> t = tables[version][box];
        int all = (1 << t.size()) - 1;
        String[] due = new String[64];
        for (int p = 0; p < 64; p++) {
            due[p] = deed(t, all, p);
        }
        for (int n = 0; n <= t.size(); n++) {
            for (int some = 0; some <= all; some++) {
                boolean alike = Integer.bitCount(some) == n;
                for (int p = 0; p < 64 && alike; p++) {
                    alike = deed(t, some, p).equals(due[p]);
                }
                if (alike) {
                    return some;
                }
            }
        }
        throw new IllegalStateException();
    }

    List<Integer> order = null;

    boolean safe(int boxes, Map<Integer, Boolean> known) {
        return known.computeIfAbsent(boxes, bits -> {
            for (int p = 0; p < 512; p++) {
                if (entry(p)) {
                    int end = walk(p, bits);
                    if (end != walk(p, 0) && end != walk(p, 255)) {
                        return false;
                    }
                }
            }
            return true;
        });
    }

    boolean extend(List<Integer> sofar, List<Integer> all, Map<Integer, Boolean> known) {
        if (sofar.size() == all.size()) {
            return true;
        }
        for (int b : all) {
            if (!sofar.contains(b)) {
                sofar.add(b);
                int bits = 0;
                for (int x : sofar) {
                    bits |= 1 << x;
                }
                if (safe(bits, known) && extend(sofar, all, known)) {
                    return true;
                }
                sofar.remove(sofar.size() - 1);
            }
        }
        return false;
    }

    public int writes() {
        List<Integer> found = new ArrayList<>();
        if (!extend(found, unlike(), new HashMap<>())) {
            return -2;
        }
        order = found;
        return found.size();
    }

    public int written(int k) {
        return order != null && in(k, 0, order.size() - 1) ? order.get(k) : NONE;
    }

    List<Integer> falls = new ArrayList<>();

    public int worst(int n) {
        if (!in(n, 1, 2)) {
            return NONE;
        }
        List<Integer> lines = new ArrayList<>();
        for (int l = 0; l < 64; l++) {
            int from = l / 8;
            int to = l % 8;
            if (from != to && !fallen[from][to] && tables[0][from].stream().anyMatch(r -> r.to() == to)) {
                lines.add(l);
            }
        }
        if (lines.size() < n) {
            return NONE;
        }
        List<Integer> ending = new ArrayList<>();
        for (int p = 0; p < 512; p++) {
            if (entry(p) && walk(p, 0) >= 0) {
                ending.add(p);
            }
        }
        TreeMap<Integer, List<Integer>> found = new TreeMap<>();
        for (int one : lines) {
            for (int other : lines) {
                if (n == 1 ? one == other : one < other) {
                    fallen[one / 8][one % 8] = true;
                    fallen[other / 8][other % 8] = true;
                    int hit = 0;
                    for (int p : ending) {
                        hit += walk(p, 0) < 0 ? 1 : 0;
                    }
                    fallen[one / 8][one % 8] = false;
                    fallen[other / 8][other % 8] = false;
                    found.putIfAbsent(hit, n == 1 ? List.of(one) : List.of(one, other));
                }
            }
        }
        falls = found.lastEntry().getValue();
        return found.lastKey();
    }

    public int falls(int k) {
        return in(k, 0, falls.size() - 1) ? falls.get(k) : NONE;
    }

    // ---- V. room and liars

    final int[] room = new int[8];
    final int[][][] counts = new int[2][8][8];

    public int needs(int wish, int box, int rows) {
        if (at(wish) == null || !in(box, 0, 7) || !in(rows, 0, 99)) {
            return NONE;
        }
        int was = at(wish).needs[box];
        at(wish).needs[box] = rows;
        return was;
    }

    public int worth(int what, int k, int n) {
        if (!in(what, 0, 1) || !in(n, 0, 999) || (what == 0 ? at(k) == null : !in(k, 0, 7))) {
            return NONE;
        }
        int was = what == 0 ? at(k).worth : room[k];
        if (what == 0) {
            at(k).worth = n;
        } else {
            room[k] = n;
        }
        return was;
    }

    public int kept(int what) {
        if (!in(what, 0, 1)) {
            return NONE;
        }
        int best = 0;
        long bestKey = Long.MIN_VALUE;
        int bestWorth = 0;
        for (int some = 0; some < 1 << wishes.size(); some++) {
            int[] used = new int[8];
            int worth = 0;
            for (int w = 0; w < wishes.size(); w++) {
                if ((some >> w & 1) == 1) {
                    worth += at(w).worth;
                    for (int b = 0; b < 8; b++) {
                        used[b] += at(w).needs[b];
                    }
                }
            }
            boolean fits = true;
            for (int b = 0; b < 8; b++) {
                fits &= used[b] <= room[b];
            }
            long key = worth * 1000000L - Integer.bitCount(some) * 10000L - some;
            if (fits && key > bestKey) {
                bestKey = key;
                best = some;
                bestWorth = worth;
            }
        }
        return what == 0 ? best : bestWorth;
    }

    public int counts(int from, int to, boolean got, int n) {
        if (!in(from, 0, 7) || !in(to, 0, 7) || from == to || !in(n, 0, 999999)) {
            return NONE;
        }
        int was = counts[got ? 1 : 0][from][to];
        counts[got ? 1 : 0][from][to] = n;
        return was;
    }

    public int liars() {
        for (int n = 0; n <= 8; n++) {
            for (int some = 0; some < 256; some++) {
                boolean all = Integer.bitCount(some) == n;
                for (int f = 0; f < 8; f++) {
                    for (int t = 0; t < 8; t++) {
                        all &= counts[0][f][t] == counts[1][f][t] || (some >> f & 1) == 1 || (some >> t & 1) == 1;
                    }
                }
                if (all) {
                    return some;
                }
            }
        }
        throw new IllegalStateException();
    }

    // ---- VI. told back

    String out = "";

    static final Node ZERO = Node.atom("0", "", 0);
    static final Node ONE = Node.atom("1", "", 0);

    static Node law(Node n) {
        Node s = n.left();
        Node t = n.right();
        if (n.sign().equals("+")) {
            return t.equals(ZERO) ? s : s.equals(ZERO) ? t : s.equals(t) ? s : n;
        }
        if (n.sign().equals("*")) {
            return s.equals(ZERO) || s.equals(ONE) ? ONE : s.sign().equals("*") ? s : n;
        }
        if (!n.sign().equals(";")) {
            return n;
        }
        if (s.equals(ONE)) {
            return t;
        }
        if (t.equals(ONE)) {
            return s;
        }
        if (s.equals(ZERO) || t.equals(ZERO)) {
            return ZERO;
        }
        if (!s.field().isEmpty() && s.field().equals(t.field())) {
            boolean alike = s.value() == t.value();
            switch (s.sign() + t.sign()) {
                case "==":
                    return alike ? s : ZERO;
                case "::":
                    return t;
                case ":=":
                    return alike ? s : ZERO;
                case "=:":
                    return alike ? s : n;
                default:
                    return n;
            }
        }
        return n;
    }

    static Node shorter(Node n) {
        Node now = n.left() == null ? n
                : Node.join(n.sign(), shorter(n.left()), n.right() == null ? null : shorter(n.right()));
        Node then = law(now);
        return then.equals(now) ? now : shorter(then);
    }

    static String full(Node n) {
        return switch (n.sign()) {
            case "0", "1" -> n.sign();
            case "=", ":" -> n.field() + n.sign() + n.value();
            case "!=" -> "!" + n.field() + "=" + n.value();
            case "*" -> "(" + full(n.left()) + ")*";
            default -> "(" + full(n.left()) + ")" + n.sign() + "(" + full(n.right()) + ")";
        };
    }

    /** Takes away each pair of ( ) that can be missed. */
    static String bare(Node n) {
        String text = full(n);
        for (int i = 0; i < text.length(); i++) {
            if (text.charAt(i) == '(') {
                int depth = 0;
                int j = i;
                do {
                    depth += text.charAt(j) == '(' ? 1 : text.charAt(j) == ')' ? -1 : 0;
                    j++;
                } while (depth > 0);
                String less = text.substring(0, i) + text.substring(i + 1, j - 1) + text.substring(j);
                if (n.equals(new Parser(less, false).whole())) {
                    text = less;
                    i--;
                }
            }
        }
        return text;
    }

    public int tell(int wish, boolean shorter) {
        if (at(wish) == null) {
            return NONE;
        }
        out = bare(shorter ? shorter(at(wish).tree) : at(wish).tree);
        return out.length();
    }

    public int octet(int i) {
        return in(i, 0, out.length() - 1) ? out.charAt(i) : NONE;
    }

    // ---- VII. cables

    final List<int[]> cables = new ArrayList<>();
    int edges = 0;

    public int cable(int a, int b) {
        if (!in(a, 0, 7) || !in(b, 0, 7) || a == b || cables.size() == 16) {
            return NONE;
        }
        cables.add(new int[] {a, b});
        return cables.size() - 1;
    }

    public int edges(int boxes) {
        if (!in(boxes, 0, 255)) {
            return NONE;
        }
        int was = edges;
        edges = boxes;
        return was;
    }

    int node(int box) {
        return (edges >> box & 1) == 1 ? 8 : box;
    }

    /** Whether the cable's ends still hang together when it is cut. */
    boolean onRing(int cable, int tapped) {
        int[] group = new int[9];
        for (int i = 0; i < 9; i++) {
            group[i] = i;
        }
        for (int c = 0; c < cables.size(); c++) {
            if (c != cable && (tapped >> c & 1) == 0) {
                int from = group[node(cables.get(c)[0])];
                int to = group[node(cables.get(c)[1])];
                for (int i = 0; i < 9; i++) {
                    group[i] = group[i] == from ? to : group[i];
                }
            }
        }
        return group[node(cables.get(cable)[0])] == group[node(cables.get(cable)[1])];
    }

    boolean isKnown(int cable, int tapped) {
        return (tapped >> cable & 1) == 1 || !onRing(cable, tapped);
    }

    public int known(int tapped) {
        if (!in(tapped, 0, (1 << cables.size()) - 1)) {
            return NONE;
        }
        int bits = 0;
        for (int c = 0; c < cables.size(); c++) {
            bits |= isKnown(c, tapped) ? 1 << c : 0;
        }
        return bits;
    }

    public int taps(int wanted) {
        if (!in(wanted, 0, (1 << cables.size()) - 1)) {
            return NONE;
        }
        for (int n = 0; n <= cables.size(); n++) {
            for (int some = 0; some < 1 << cables.size(); some++) {
                boolean all = Integer.bitCount(some) == n;
                for (int c = 0; c < cables.size() && all; c++) {
                    all = (wanted >> c & 1) == 0 || isKnown(c, some);
                }
                if (all) {
                    return some;
                }
            }
        }
        throw new IllegalStateException();
    }

    // ---- VIII. made

    Row rightRow(Wish w, int box, int match) {
        List<int[]> pairs = new ArrayList<>();
        int none = 0;
        for (int p = 64 * box; p < 64 * box + 64; p++) {
            if (new Row(match, 0, 0).matches(p)) {
                if (w.made[p].isEmpty()) {
                    none++;
                } else {
                    pairs.add(new int[] {p, w.made[p].nextSetBit(0)});
                }
            }
        }
        if (pairs.isEmpty()) {
            return new Row(match, 0, 9);
        }
        if (none > 0 || pairs.stream().mapToInt(x -> x[1] / 64).distinct().count() > 1) {
            return null;
        }
        int sets = 0;
        for (String f : new String[] {"a", "b", "c"}) {
            boolean stays = pairs.stream().allMatch(x -> field(x[0], f) == field(x[1], f));
            boolean one = pairs.stream().mapToInt(x -> field(x[1], f)).distinct().count() == 1;
            if (!stays && !one) {
                return null;
            }
            sets = sets * 5 + (stays ? 0 : 1 + field(pairs.get(0)[1], f));
        }
        int to = pairs.get(0)[1] / 64;
        return new Row(match, sets, to == box ? 8 : to);
    }

    public int make(int wish, int version, int box) {
        if (at(wish) == null || !table(version, box)) {
            return NONE;
        }
        Wish w = at(wish);
        for (int p = 64 * box; p < 64 * box + 64; p++) {
            if (w.made[p].cardinality() > 1) {
                return -3;
            }
        }
        List<Integer> matches = new ArrayList<>();
        for (int m = 0; m < 125; m++) {
            matches.add(m);
        }
        matches.sort((x, y) -> size(x) != size(y) ? size(y) - size(x) : x - y);
        List<Row> rows = new ArrayList<>();
        BitSet has = new BitSet();
        for (int m : matches) {
            BitSet more = new BitSet();
            for (int p = 0; p < 64; p++) {
                if (new Row(m, 0, 0).matches(p) && !has.get(p)) {
                    more.set(p);
                }
            }
            Row r = rightRow(w, box, m);
            if (r != null && !more.isEmpty() && has.cardinality() < 64) {
                rows.add(r);
                has.or(more);
            }
        }
        if (rows.size() > 12) {
            return -2;
        }
        tables[version][box] = rows;
        return rows.size();
    }

    static int size(int match) {
        return (match / 25 == 0 ? 4 : 1) * (match / 5 % 5 == 0 ? 4 : 1) * (match % 5 == 0 ? 4 : 1);
    }

    public int rows(int version, int box, int k, int what) {
        if (!table(version, box) || !in(k, 0, tables[version][box].size() - 1) || !in(what, 0, 2)) {
            return NONE;
        }
        Row r = tables[version][box].get(k);
        return what == 0 ? r.match() : what == 1 ? r.sets() : r.to();
    }

    // ---- IX. ticks

    final int[] ticks = new int[8];

    public int write(int box, int tick) {
        if (!in(box, 0, 7) || !in(tick, -1, 999)) {
            return -2;
        }
        int was = ticks[box];
        ticks[box] = tick;
        return was;
    }

    int watch(int packet, int tick, int[] plan) {
        int p = packet;
        for (int n = 0; n < 100; n++) {
            int t = Math.min(999, tick + n);
            int next = step(p, plan[p / 64] != NONE && plan[p / 64] <= t ? 1 : 0, new ArrayList<>());
            if (next >= 1000) {
                return next - 1000;
            }
            if (next < 0) {
                return -2;
            }
            p = next;
        }
        return -3;
    }

    public int seen(int packet, int tick) {
        return in(packet, 0, 511) && in(tick, 0, 999) ? watch(packet, tick, ticks) : NONE;
    }

    List<Integer> neitherBy(int tick, int[] plan) {
        int last = 0;
        for (int b = 0; b < 8; b++) {
            last |= plan[b] == NONE ? 0 : 1 << b;
        }
        List<Integer> found = new ArrayList<>();
        for (int p = 0; p < 512; p++) {
            if (entry(p)) {
                int end = watch(p, tick, plan);
                if (end != walk(p, 0) && end != walk(p, last)) {
                    found.add(p);
                }
            }
        }
        return found;
    }

    public int neither(int tick, int k) {
        if (!in(tick, 0, 999)) {
            return NONE;
        }
        List<Integer> all = neitherBy(tick, ticks);
        return k == NONE ? all.size() : in(k, 0, all.size() - 1) ? all.get(k) : NONE;
    }

    public int gap() {
        if (order == null || order.isEmpty()) {
            return NONE;
        }
        for (int g = 1; g <= 9; g++) {
            int[] plan = new int[8];
            Arrays.fill(plan, NONE);
            for (int i = 0; i < order.size(); i++) {
                plan[order.get(i)] = g * i;
            }
            boolean quiet = true;
            for (int t = 0; t <= g * order.size() && quiet; t++) {
                quiet = neitherBy(t, plan).isEmpty();
            }
            if (quiet) {
                return g;
            }
        }
        return -2;
    }

    public int count(int what) {
        int[] rows = new int[2];
        int down = 0;
        for (int v = 0; v < 2; v++) {
            for (int b = 0; b < 8; b++) {
                rows[v] += tables[v][b].size();
            }
        }
        for (boolean[] some : fallen) {
            for (boolean one : some) {
                down += one ? 1 : 0;
            }
        }
        return switch (what) {
            case 0 -> wishes.size();
            case 1 -> rows[0];
            case 2 -> rows[1];
            case 3 -> down;
            case 4 -> tape.size();
            case 5 -> unlike().size();
            case 6 -> out.length();
            case 7 -> cables.size();
            default -> NONE;
        };
    }
}
