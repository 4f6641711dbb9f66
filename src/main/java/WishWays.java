import java.util.Arrays;

/** Wishes for a network, the tables that should fulfil them, and what stands between both. */
public final class WishWays {
    public static final int NONE = -1;

    // Where NONE already says something ("none there"), this says that the question itself was amiss.
    private static final int AMISS = -2;
    private static final int LOST = -2;
    private static final int LOOP = -3;
    private static final int NO_ORDER = -2;
    private static final int TOO_MANY_ROWS = -2;
    private static final int SEVERAL = -3;

    private static final int PACKETS = 512;
    private static final int PLACE_SIZE = 64;
    private static final int PLACES = 8;
    private static final int ALL_PLACES = 255;
    private static final int WISHES = 12;
    private static final int HOUSES = 4;
    private static final int TAPE = 200;
    private static final int FED = 20;

    private static final int ROWS = 12;
    private static final int PATTERNS = 125;
    private static final int LEAVES = 8;
    private static final int DROPS = 9;

    private static final int FIELDS = 4;
    private static final int AT = 3;
    // Of the fields a, b, c and the place: where they stand in a packet's number, and their greatest value.
    private static final int[] SHIFT = {4, 2, 0, 6};
    private static final int[] GREATEST = {3, 3, 3, 7};

    private final int[] tape;
    private int tapeSize;
    private final Wish[] wishes;
    private int wishCount;
    private final int[] rights;
    private final int[] ranks;
    private final Reader reader;
    private final Maker maker;
    private final Teller teller;
    private final Network network;
    private final Rollout rollout;
    private final Storm storm;
    private final Ledger ledger;
    private final Cabling cabling;

    public WishWays() {
        tape = new int[TAPE];
        wishes = new Wish[WISHES];
        rights = new int[HOUSES * FIELDS];
        ranks = new int[HOUSES];
        reader = new Reader();
        maker = new Maker();
        teller = new Teller();
        network = new Network();
        rollout = new Rollout(network);
        storm = new Storm(network);
        ledger = new Ledger();
        cabling = new Cabling();
        Arrays.fill(rights, ALL_PLACES);
    }

    // ---- the tape and the wishes

    public int feed(int a, int b, int c, int d, int e) {
        if (tapeSize > TAPE - FED) {
            return NONE;
        }
        takeBytes(a);
        takeBytes(b);
        takeBytes(c);
        takeBytes(d);
        takeBytes(e);
        return tapeSize;
    }

    private void takeBytes(int number) {
        for (int shift = 24; shift >= 0; shift -= 8) {
            if (tapeSize < TAPE) {
                tape[tapeSize] = (number >>> shift) & 255;
                tapeSize++;
            }
        }
    }

    public int end(int n) {
        if (!upTo(n, tapeSize)) {
            return NONE;
        }
        tapeSize = n;
        return n;
    }

    public int wish(int house) {
        if (wishCount >= WISHES || !upTo(house, HOUSES - 1)) {
            return NONE;
        }
        int fault = reader.read(tape, tapeSize);
        tapeSize = 0;
        if (fault != 0) {
            return -2 - fault;
        }
        Tree tree = reader.tree.copied();
        wishes[wishCount] = new Wish(house, tree, maker.relationOf(tree));
        wishCount++;
        return wishCount - 1;
    }

    public int makes(int wish, int packet, int k) {
        Wish it = wishAt(wish);
        if (it == null || !isPacket(packet)) {
            return NONE;
        }
        return k == NONE ? it.howMany(packet) : it.pick(packet, k);
    }

    public int of(int wish, int what) {
        Wish it = wishAt(wish);
        if (it == null || !upTo(what, 2)) {
            return NONE;
        }
        int n = 0;
        for (int packet = 0; packet < PACKETS; packet++) {
            int made = it.howMany(packet);
            boolean fits = what == 0 ? made > 0 : what == 1 ? it.makesJust(packet, packet) : made > 1;
            if (fits) {
                n++;
            }
        }
        return n;
    }

    // ---- wishes held against one another

    public int parts(int a, int b, int what) {
        Wish one = wishAt(a);
        Wish other = wishAt(b);
        if (one == null || other == null || !upTo(what, 2)) {
            return AMISS;
        }
        for (int packet = 0; packet < PACKETS; packet++) {
            int by = one.partsBy(other, packet);
            if (by != NONE) {
                return what == 0 ? packet : what == 1 ? by : one.holds(packet, by) ? 0 : 1;
            }
        }
        return NONE;
    }

    public int within(int a, int b) {
        Wish one = wishAt(a);
        Wish other = wishAt(b);
        if (one == null || other == null) {
            return NONE;
        }
        for (int packet = 0; packet < PACKETS; packet++) {
            if (!one.isInside(other, packet)) {
                return 0;
            }
        }
        return 1;
    }

    public boolean right(int house, int places, int a, int b, int c) {
        if (!upTo(house, HOUSES - 1) || !upTo(places, ALL_PLACES)
                || !upTo(a, 15) || !upTo(b, 15) || !upTo(c, 15)) {
            return false;
        }
        rights[FIELDS * house] = a;
        rights[FIELDS * house + 1] = b;
        rights[FIELDS * house + 2] = c;
        rights[FIELDS * house + AT] = places;
        return true;
    }

    public int breaks(int wish) {
        Wish it = wishAt(wish);
        if (it == null) {
            return AMISS;
        }
        for (int packet = 0; packet < PACKETS; packet++) {
            if (!it.makesNone(packet) && !mayTouch(it.house, packet)) {
                return packet;
            }
        }
        return NONE;
    }

    private boolean mayTouch(int house, int packet) {
        for (int field = 0; field < FIELDS; field++) {
            if (!hasBit(rights[FIELDS * house + field], valueOf(packet, field))) {
                return false;
            }
        }
        return true;
    }

    public int quarrel(int a, int b) {
        Wish one = wishAt(a);
        Wish other = wishAt(b);
        if (one == null || other == null) {
            return AMISS;
        }
        for (int packet = 0; packet < PACKETS; packet++) {
            if (!one.makesNone(packet) && !other.makesNone(packet) && one.partsBy(other, packet) != NONE) {
                return packet;
            }
        }
        return NONE;
    }

    public int rank(int house, int n) {
        if (!upTo(house, HOUSES - 1) || !upTo(n, 9)) {
            return NONE;
        }
        int was = ranks[house];
        ranks[house] = n;
        return was;
    }

    public int joined(int packet, int what) {
        if (!isPacket(packet) || !upTo(what, 2)) {
            return NONE;
        }
        int first = firstByRank(packet);
        if (what == 0) {
            return first;
        }
        if (first == NONE) {
            return what == 1 ? 0 : NONE;
        }
        return what == 1 ? wishes[first].howMany(packet) : wishes[first].pick(packet, 0);
    }

    private int firstByRank(int packet) {
        int first = NONE;
        for (int i = 0; i < wishCount; i++) {
            if (!wishes[i].makesNone(packet)
                    && (first == NONE || ranks[wishes[i].house] > ranks[wishes[first].house])) {
                first = i;
            }
        }
        return first;
    }

    // ---- tables, lines and ways

    public int row(int version, int box, int match, int sets, int to) {
        Table table = network.tableAt(version, box);
        if (table == null || !upTo(match, PATTERNS - 1) || !upTo(sets, PATTERNS - 1) || !upTo(to, DROPS)) {
            return NONE;
        }
        return table.addRow(match, sets, to);
    }

    public int erase(int version, int box) {
        Table table = network.tableAt(version, box);
        if (table == null) {
            return NONE;
        }
        int had = table.size;
        table.clear();
        return had;
    }

    public int renew() {
        int unlike = network.unlikeBoxes();
        network.takeNewTables(unlike);
        return Integer.bitCount(unlike);
    }

    public boolean line(int from, int to, boolean fallen) {
        return isLine(from, to) && network.setFallen(from, to, fallen);
    }

    public int entries(int places) {
        if (!upTo(places, ALL_PLACES)) {
            return NONE;
        }
        int was = network.entryPlaces;
        network.entryPlaces = places;
        return was;
    }

    public int ends(int packet, int boxes) {
        if (!isPacket(packet) || !upTo(boxes, ALL_PLACES)) {
            return NONE;
        }
        return network.follow(packet, boxes);
    }

    public int way(int k) {
        return k >= 0 && k < network.waySize ? network.wayRows[k] : NONE;
    }

    public int shown(int wish, int boxes) {
        Wish it = wishAt(wish);
        if (it == null || !upTo(boxes, ALL_PLACES)) {
            return AMISS;
        }
        return network.firstUnlike(it, network.endsBy(boxes));
    }

    public int guessed(int boxes) {
        if (!upTo(boxes, ALL_PLACES)) {
            return NONE;
        }
        int[] ends = network.endsBy(boxes);
        int bits = 0;
        for (int i = 0; i < wishCount; i++) {
            if (network.firstUnlike(wishes[i], ends) == NONE) {
                bits |= 1 << i;
            }
        }
        return bits;
    }

    public int packed(int version, int box) {
        Table table = network.tableAt(version, box);
        return table == null ? NONE : table.fewestRows();
    }

    // ---- writing over, and lines that fall

    public int writes() {
        return rollout.findOrder();
    }

    public int written(int k) {
        return k >= 0 && k < rollout.orderSize ? rollout.order[k] : NONE;
    }

    public int worst(int n) {
        return upTo(n, 2) && n > 0 ? storm.strike(n) : NONE;
    }

    public int falls(int k) {
        return k >= 0 && k < storm.struckCount ? storm.struck[k] : NONE;
    }

    // ---- room, worth and counts

    public int needs(int wish, int box, int rows) {
        Wish it = wishAt(wish);
        if (it == null || !isBox(box) || !upTo(rows, 99)) {
            return NONE;
        }
        int was = it.rowsNeeded[box];
        it.rowsNeeded[box] = rows;
        return was;
    }

    public int worth(int what, int k, int n) {
        if (!upTo(n, 999)) {
            return NONE;
        }
        if (what == 1) {
            return isBox(k) ? ledger.setRoom(k, n) : NONE;
        }
        Wish it = wishAt(k);
        if (what != 0 || it == null) {
            return NONE;
        }
        int was = it.value;
        it.value = n;
        return was;
    }

    public int kept(int what) {
        if (!upTo(what, 1)) {
            return NONE;
        }
        ledger.choose(wishes, wishCount);
        return what == 0 ? ledger.chosen : ledger.chosenValue;
    }

    public int counts(int from, int to, boolean got, int n) {
        if (!isLine(from, to) || !upTo(n, 999999)) {
            return NONE;
        }
        return ledger.tellCount(from, to, got, n);
    }

    public int liars() {
        return ledger.fewestLiars();
    }

    // ---- wishes told back

    public int tell(int wish, boolean shorter) {
        Wish it = wishAt(wish);
        if (it == null) {
            return NONE;
        }
        return shorter ? teller.putShorter(it.tree) : teller.putAll(it.tree);
    }

    public int octet(int i) {
        return i >= 0 && i < teller.outSize ? teller.out[i] : NONE;
    }

    // ---- cables

    public int cable(int a, int b) {
        return isLine(a, b) ? cabling.lay(a, b) : NONE;
    }

    public int edges(int boxes) {
        if (!upTo(boxes, ALL_PLACES)) {
            return NONE;
        }
        int was = cabling.edgeBoxes;
        cabling.edgeBoxes = boxes;
        return was;
    }

    public int known(int tapped) {
        return cabling.areThere(tapped) ? cabling.knownWith(tapped) : NONE;
    }

    public int taps(int cables) {
        return cabling.areThere(cables) ? cabling.fewestTaps(cables) : NONE;
    }

    // ---- tables made from wishes

    public int make(int wish, int version, int box) {
        Wish it = wishAt(wish);
        Table table = network.tableAt(version, box);
        if (it == null || table == null) {
            return NONE;
        }
        return table.remake(it, box);
    }

    public int rows(int version, int box, int k, int what) {
        Table table = network.tableAt(version, box);
        if (table == null || k < 0 || k >= table.size || !upTo(what, 2)) {
            return NONE;
        }
        return what == 0 ? table.matches[k] : what == 1 ? table.changes[k] : table.targets[k];
    }

    // ---- ticks

    public int write(int box, int tick) {
        if (!isBox(box) || tick != NONE && !isTick(tick)) {
            return AMISS;
        }
        int was = rollout.ticks[box];
        rollout.ticks[box] = tick;
        return was;
    }

    public int seen(int packet, int tick) {
        if (!isPacket(packet) || !isTick(tick)) {
            return NONE;
        }
        return rollout.watch(packet, tick);
    }

    public int neither(int tick, int k) {
        if (!isTick(tick) || k < NONE) {
            return NONE;
        }
        return rollout.countNeither(tick, k);
    }

    public int gap() {
        return rollout.findGap();
    }

    public int count(int what) {
        switch (what) {
            case 0:
                return wishCount;
            case 1:
                return network.countRows(0);
            case 2:
                return network.countRows(1);
            case 3:
                return Long.bitCount(network.fallenLines);
            case 4:
                return tapeSize;
            case 5:
                return Integer.bitCount(network.unlikeBoxes());
            case 6:
                return teller.outSize;
            case 7:
                return cabling.size;
            default:
                return NONE;
        }
    }

    // ---- what all parts share

    private Wish wishAt(int wish) {
        return wish >= 0 && wish < wishCount ? wishes[wish] : null;
    }

    private static boolean upTo(int n, int most) {
        return n >= 0 && n <= most;
    }

    private static boolean isPacket(int n) {
        return upTo(n, PACKETS - 1);
    }

    private static boolean isBox(int n) {
        return upTo(n, PLACES - 1);
    }

    private static boolean isTick(int n) {
        return upTo(n, 999);
    }

    private static boolean isLine(int from, int to) {
        return isBox(from) && isBox(to) && from != to;
    }

    private static boolean hasBit(int bits, int i) {
        return ((bits >> i) & 1) != 0;
    }

    private static int lowestBit(long bits) {
        return Long.bitCount((bits & -bits) - 1);
    }

    private static int valueOf(int packet, int field) {
        return (packet >> SHIFT[field]) & GREATEST[field];
    }

    private static int changed(int packet, int field, int value) {
        return (packet & ~(GREATEST[field] << SHIFT[field])) | (value << SHIFT[field]);
    }

    /** A wish as a tree; each node stands behind the nodes that it joins, the root is the last one. */
    private static final class Tree {
        static final int ZERO = 0;
        static final int ONE = 1;
        static final int TEST = 2;
        static final int UNLESS = 3;
        static final int CHANGE = 4;
        static final int STAR = 5;
        static final int THEN = 6;
        static final int EITHER = 7;

        final int[] kinds;
        // Of an atom its field and value, else the nodes that are joined.
        final int[] lefts;
        final int[] rights;
        int size;

        Tree(int capacity) {
            int room = Math.max(capacity, 1);
            kinds = new int[room];
            lefts = new int[room];
            rights = new int[room];
        }

        int add(int kind, int left, int right) {
            // A text of 200 bytes has at most 200 nodes, so this never fills up.
            if (size >= kinds.length) {
                return 0;
            }
            kinds[size] = kind;
            lefts[size] = left;
            rights[size] = right;
            size++;
            return size - 1;
        }

        int findOrAdd(int kind, int left, int right) {
            for (int i = 0; i < size; i++) {
                if (kinds[i] == kind && lefts[i] == left && rights[i] == right) {
                    return i;
                }
            }
            return add(kind, left, right);
        }

        Tree copied() {
            Tree copy = new Tree(size);
            for (int i = 0; i < size; i++) {
                copy.add(kinds[i], lefts[i], rights[i]);
            }
            return copy;
        }
    }

    /** Reads a text as a tree; what is still open waits on two stacks, so that nothing recurs. */
    private static final class Reader {
        static final int MOST_OPEN = 8;
        static final int MOST_ATOMS = 40;
        // Nine levels, each with a +, a ; and a ( that wait.
        static final int WAITING = 32;
        static final int END = -1;
        static final int MISPLACED = 0;
        static final int TOO_GREAT = 1;
        static final int TOO_DEEP = 2;
        static final int TOO_MANY = 3;

        final Tree tree;
        final int[] signs;
        final int[] operands;
        int[] text;
        int length;
        int place;
        int signCount;
        int operandCount;
        int open;
        int atoms;
        int fault;
        boolean finished;

        Reader() {
            tree = new Tree(TAPE);
            signs = new int[WAITING];
            operands = new int[WAITING];
            text = new int[0];
        }

        /** The fault, or 0: then the tree is the text's. */
        int read(int[] newText, int newLength) {
            text = newText;
            length = Math.min(newLength, newText.length);
            place = 0;
            tree.size = 0;
            signCount = 0;
            operandCount = 0;
            open = 0;
            atoms = 0;
            fault = 0;
            finished = false;
            boolean wantsAtom = true;
            for (int step = 0; step <= length && fault == 0 && !finished; step++) {
                skipBlanks();
                wantsAtom = wantsAtom ? readAhead() : readBehind();
            }
            return fault;
        }

        /** Reads ( or an atom; tells whether an atom is wanted still. */
        boolean readAhead() {
            int sign = signHere();
            if (sign == '(') {
                openBracket();
                return true;
            }
            if (isDigit(sign)) {
                readConstant(sign);
            } else if (sign == '!') {
                readUnless();
            } else {
                readTestOrChange();
            }
            return false;
        }

        void openBracket() {
            if (open >= MOST_OPEN) {
                fail(place, TOO_DEEP);
                return;
            }
            open++;
            pushSign('(');
            place++;
        }

        void readConstant(int sign) {
            if (digitsHere() != 1 || sign > '1') {
                fail(place, MISPLACED);
                return;
            }
            countAtom(place);
            place++;
            pushOperand(sign == '0' ? Tree.ZERO : Tree.ONE, 0, 0);
        }

        void readUnless() {
            countAtom(place);
            place++;
            skipBlanks();
            int field = fieldHere();
            if (field == NONE) {
                fail(place, MISPLACED);
                return;
            }
            place += wordHere();
            skipBlanks();
            if (signHere() != '=') {
                fail(place, MISPLACED);
                return;
            }
            place++;
            readValue(Tree.UNLESS, field);
        }

        void readTestOrChange() {
            int field = fieldHere();
            if (field == NONE) {
                fail(place, MISPLACED);
                return;
            }
            countAtom(place);
            place += wordHere();
            skipBlanks();
            int sign = signHere();
            if (sign != '=' && sign != ':') {
                fail(place, MISPLACED);
                return;
            }
            place++;
            readValue(sign == '=' ? Tree.TEST : Tree.CHANGE, field);
        }

        void readValue(int kind, int field) {
            skipBlanks();
            int sign = signHere();
            if (!isDigit(sign)) {
                fail(place, MISPLACED);
                return;
            }
            if (digitsHere() > 1 || sign - '0' > GREATEST[field]) {
                fail(place, TOO_GREAT);
                return;
            }
            place++;
            pushOperand(kind, field, sign - '0');
        }

        /** Reads what stands behind a factor; tells whether an atom is wanted then. */
        boolean readBehind() {
            int sign = signHere();
            if (sign == '*') {
                place++;
                starOperand();
                return false;
            }
            if (sign == '+' || sign == ';') {
                joinWaiting(sign);
                pushSign(sign);
                place++;
                return true;
            }
            if (sign == ')' && open > 0) {
                joinWaiting(sign);
                signCount = Math.max(signCount - 1, 0);
                open--;
                place++;
                return false;
            }
            if (sign != END || open > 0) {
                fail(place, MISPLACED);
                return false;
            }
            joinWaiting(sign);
            finished = true;
            return false;
        }

        /** Joins what waits since the last ( and binds at least as strongly as the sign ahead. */
        void joinWaiting(int ahead) {
            for (int n = signCount; n > 0; n--) {
                int sign = signs[n - 1];
                if (sign == '(' || sign == '+' && ahead == ';') {
                    return;
                }
                signCount = n - 1;
                joinOperands(sign == '+' ? Tree.EITHER : Tree.THEN);
            }
        }

        void joinOperands(int kind) {
            if (operandCount < 2) {
                return;
            }
            operandCount--;
            operands[operandCount - 1] = tree.add(kind, operands[operandCount - 1], operands[operandCount]);
        }

        void starOperand() {
            if (operandCount > 0) {
                operands[operandCount - 1] = tree.add(Tree.STAR, operands[operandCount - 1], 0);
            }
        }

        void pushOperand(int kind, int field, int value) {
            if (fault == 0 && operandCount < WAITING) {
                operands[operandCount] = tree.add(kind, field, value);
                operandCount++;
            }
        }

        void pushSign(int sign) {
            if (signCount < WAITING) {
                signs[signCount] = sign;
                signCount++;
            }
        }

        void countAtom(int at) {
            atoms++;
            if (atoms > MOST_ATOMS) {
                fail(at, TOO_MANY);
            }
        }

        void fail(int at, int kind) {
            // Only the first fault counts, and the reading goes on to the end of an atom behind it.
            if (fault == 0) {
                fault = 1 + 8 * at + kind;
            }
        }

        void skipBlanks() {
            for (int n = place; n < length && text[n] == ' '; n++) {
                place = n + 1;
            }
        }

        int signHere() {
            return place < length ? text[place] : END;
        }

        static boolean isDigit(int sign) {
            return sign >= '0' && sign <= '9';
        }

        static boolean isLetter(int sign) {
            return sign >= 'a' && sign <= 'z';
        }

        int digitsHere() {
            int n = place;
            for (int i = place; i < length && isDigit(text[i]); i++) {
                n = i + 1;
            }
            return n - place;
        }

        int wordHere() {
            int n = place;
            for (int i = place; i < length && isLetter(text[i]); i++) {
                n = i + 1;
            }
            return n - place;
        }

        int fieldHere() {
            int letters = wordHere();
            int sign = signHere();
            if (letters == 1 && sign <= 'c') {
                return sign - 'a';
            }
            return letters == 2 && sign == 'a' && text[place + 1] == 't' ? AT : NONE;
        }
    }

    /** Makes a wish's relation: for each packet eight words, one a place, with a bit for each packet made. */
    private static final class Maker {
        static final int WORDS = PACKETS * PLACES;
        // Nine levels with two relations that wait in each, and the one that is being made.
        static final int SLOTS = 20;

        // Made when first needed and used again, since most wishes need two or three of them.
        final long[][] waiting;
        final long[] sum;
        int used;

        Maker() {
            waiting = new long[SLOTS][0];
            sum = new long[PLACES];
        }

        long[] relationOf(Tree tree) {
            used = 0;
            for (int i = 0; i < tree.size; i++) {
                takeNode(tree, i);
            }
            if (used == 0) {
                pushEmpty();
            }
            long[] made = waiting[0];
            waiting[0] = new long[0];
            return made;
        }

        void takeNode(Tree tree, int node) {
            int kind = tree.kinds[node];
            if (kind == Tree.STAR) {
                // What is closed already stays as it is; a row of stars would be slow otherwise.
                if (used > 0 && tree.kinds[tree.lefts[node]] != Tree.STAR) {
                    close(waiting[used - 1]);
                }
            } else if (kind == Tree.THEN || kind == Tree.EITHER) {
                joinTop(kind);
            } else if (pushEmpty()) {
                fillAtom(waiting[used - 1], kind, tree.lefts[node], tree.rights[node]);
            }
        }

        boolean pushEmpty() {
            if (used >= SLOTS) {
                return false;
            }
            if (waiting[used].length < WORDS) {
                waiting[used] = new long[WORDS];
            } else {
                Arrays.fill(waiting[used], 0);
            }
            used++;
            return true;
        }

        void joinTop(int kind) {
            if (used < 2) {
                return;
            }
            used--;
            if (kind == Tree.THEN) {
                follow(waiting[used - 1], waiting[used]);
            } else {
                unite(waiting[used - 1], waiting[used]);
            }
        }

        static void fillAtom(long[] words, int kind, int field, int value) {
            if (kind == Tree.ZERO) {
                return;
            }
            for (int packet = 0; packet < PACKETS; packet++) {
                boolean hasValue = valueOf(packet, field) == value;
                if (kind == Tree.CHANGE) {
                    mark(words, packet, changed(packet, field, value));
                } else if (kind == Tree.ONE || hasValue == (kind == Tree.TEST)) {
                    mark(words, packet, packet);
                }
            }
        }

        static void mark(long[] words, int packet, int made) {
            words[packet * PLACES + (made >> 6)] |= 1L << (made & 63);
        }

        static void unite(long[] words, long[] others) {
            for (int i = 0; i < WORDS; i++) {
                words[i] |= others[i];
            }
        }

        void follow(long[] words, long[] others) {
            for (int start = 0; start < WORDS; start += PLACES) {
                Arrays.fill(sum, 0);
                for (int place = 0; place < PLACES; place++) {
                    if (words[start + place] != 0) {
                        addRows(words[start + place], place, others);
                    }
                }
                System.arraycopy(sum, 0, words, start, PLACES);
            }
        }

        void addRows(long packets, int place, long[] others) {
            long rest = packets;
            for (int n = Long.bitCount(packets); n > 0; n--) {
                int row = (place * PLACE_SIZE + lowestBit(rest)) * PLACES;
                for (int i = 0; i < PLACES; i++) {
                    sum[i] |= others[row + i];
                }
                rest &= rest - 1;
            }
        }

        /** Adds all that is reached in any number of steps, none too. */
        void close(long[] words) {
            sumUpOthers(words);
            for (int by = 0; by < PACKETS; by++) {
                // By a packet that none but itself makes nobody goes on.
                if (((sum[by >> 6] >>> (by & 63)) & 1) != 0) {
                    goOnBy(words, by);
                }
            }
            for (int packet = 0; packet < PACKETS; packet++) {
                mark(words, packet, packet);
            }
        }

        /** All packets that are made of others. */
        void sumUpOthers(long[] words) {
            Arrays.fill(sum, 0);
            for (int packet = 0; packet < PACKETS; packet++) {
                int own = packet >> 6;
                for (int place = 0; place < PLACES; place++) {
                    long made = words[packet * PLACES + place];
                    sum[place] |= place == own ? made & ~(1L << (packet & 63)) : made;
                }
            }
        }

        static void goOnBy(long[] words, int by) {
            int row = by * PLACES;
            if (isEmptyRow(words, row)) {
                return;
            }
            for (int start = 0; start < WORDS; start += PLACES) {
                if (((words[start + (by >> 6)] >>> (by & 63)) & 1) != 0) {
                    for (int i = 0; i < PLACES; i++) {
                        words[start + i] |= words[row + i];
                    }
                }
            }
        }

        static boolean isEmptyRow(long[] words, int row) {
            for (int i = 0; i < PLACES; i++) {
                if (words[row + i] != 0) {
                    return false;
                }
            }
            return true;
        }
    }

    /** A wish that was told: its tree, what it makes of each packet, and what it is worth. */
    private static final class Wish {
        final int house;
        final Tree tree;
        final long[] made;
        final int[] rowsNeeded;
        int value;

        Wish(int house, Tree tree, long[] made) {
            this.house = house;
            this.tree = tree;
            this.made = made;
            rowsNeeded = new int[PLACES];
        }

        int howMany(int packet) {
            int n = 0;
            for (int place = 0; place < PLACES; place++) {
                n += Long.bitCount(made[packet * PLACES + place]);
            }
            return n;
        }

        int pick(int packet, int k) {
            int ahead = k;
            for (int place = 0; place < PLACES && ahead >= 0; place++) {
                long packets = made[packet * PLACES + place];
                int n = Long.bitCount(packets);
                if (ahead < n) {
                    return place * PLACE_SIZE + kthBit(packets, ahead);
                }
                ahead -= n;
            }
            return NONE;
        }

        static int kthBit(long bits, int k) {
            long rest = bits;
            for (int i = 0; i < k; i++) {
                rest &= rest - 1;
            }
            return lowestBit(rest);
        }

        boolean holds(int packet, int one) {
            return ((made[packet * PLACES + (one >> 6)] >>> (one & 63)) & 1) != 0;
        }

        boolean makesNone(int packet) {
            return Maker.isEmptyRow(made, packet * PLACES);
        }

        boolean makesJust(int packet, int one) {
            return holds(packet, one) && howMany(packet) == 1;
        }

        /** The least packet that this or the other makes alone, or NONE. */
        int partsBy(Wish other, int packet) {
            for (int place = 0; place < PLACES; place++) {
                long unlike = made[packet * PLACES + place] ^ other.made[packet * PLACES + place];
                if (unlike != 0) {
                    return place * PLACE_SIZE + lowestBit(unlike);
                }
            }
            return NONE;
        }

        boolean isInside(Wish other, int packet) {
            for (int place = 0; place < PLACES; place++) {
                if ((made[packet * PLACES + place] & ~other.made[packet * PLACES + place]) != 0) {
                    return false;
                }
            }
            return true;
        }
    }

    /** A box's rows, with the deed that they do to each of the 64 packets there. */
    private static final class Table {
        static final int UNRIGHT = -1;

        final int[] matches;
        final int[] changes;
        final int[] targets;
        int size;
        final int[] firstRows;
        // 64 * TO + the fields as they are then; LOST without a row or with TO 9, whatever that sets.
        final int[] deeds;

        Table() {
            matches = new int[ROWS];
            changes = new int[ROWS];
            targets = new int[ROWS];
            firstRows = new int[PLACE_SIZE];
            deeds = new int[PLACE_SIZE];
            Arrays.fill(firstRows, NONE);
            Arrays.fill(deeds, LOST);
        }

        int addRow(int match, int change, int target) {
            if (size >= ROWS) {
                return NONE;
            }
            matches[size] = match;
            changes[size] = change;
            targets[size] = target;
            for (int fields = 0; fields < PLACE_SIZE; fields++) {
                if (firstRows[fields] == NONE && isMatch(match, fields)) {
                    firstRows[fields] = size;
                    deeds[fields] = deedOf(size, fields);
                }
            }
            size++;
            return size - 1;
        }

        void clear() {
            size = 0;
            Arrays.fill(firstRows, NONE);
            Arrays.fill(deeds, LOST);
        }

        void takeFrom(Table other) {
            System.arraycopy(other.matches, 0, matches, 0, ROWS);
            System.arraycopy(other.changes, 0, changes, 0, ROWS);
            System.arraycopy(other.targets, 0, targets, 0, ROWS);
            System.arraycopy(other.firstRows, 0, firstRows, 0, PLACE_SIZE);
            System.arraycopy(other.deeds, 0, deeds, 0, PLACE_SIZE);
            size = other.size;
        }

        boolean isAlike(Table other) {
            if (size != other.size) {
                return false;
            }
            for (int i = 0; i < size; i++) {
                if (matches[i] != other.matches[i] || changes[i] != other.changes[i]
                        || targets[i] != other.targets[i]) {
                    return false;
                }
            }
            return true;
        }

        /** What a match or a change tells of a field: 0, or 1 + the value. */
        static int toldOf(int pattern, int field) {
            return field == 0 ? pattern / 25 : field == 1 ? pattern / 5 % 5 : pattern % 5;
        }

        static boolean isMatch(int match, int fields) {
            for (int field = 0; field < AT; field++) {
                int told = toldOf(match, field);
                if (told != 0 && told - 1 != valueOf(fields, field)) {
                    return false;
                }
            }
            return true;
        }

        int deedOf(int row, int fields) {
            if (targets[row] == DROPS) {
                return LOST;
            }
            int then = fields;
            for (int field = 0; field < AT; field++) {
                int told = toldOf(changes[row], field);
                if (told != 0) {
                    then = changed(then, field, told - 1);
                }
            }
            return PLACE_SIZE * targets[row] + then;
        }

        // ---- packing

        int fewestRows() {
            long[] matching = new long[ROWS];
            long[] alike = new long[ROWS];
            long droppable = 0;
            for (int fields = 0; fields < PLACE_SIZE; fields++) {
                droppable |= deeds[fields] == LOST ? 1L << fields : 0;
            }
            for (int row = 0; row < size; row++) {
                matching[row] = packetsOf(matches[row]);
                alike[row] = alikeBy(row, matching[row]);
            }
            int best = (1 << size) - 1;
            int bestCount = size;
            for (int some = 0; some < 1 << size; some++) {
                int n = Integer.bitCount(some);
                if (n < bestCount && dealAlike(some, matching, alike, droppable)) {
                    best = some;
                    bestCount = n;
                }
            }
            return best;
        }

        static long packetsOf(int match) {
            long packets = 0;
            for (int fields = 0; fields < PLACE_SIZE; fields++) {
                packets |= isMatch(match, fields) ? 1L << fields : 0;
            }
            return packets;
        }

        long alikeBy(int row, long matching) {
            long alike = 0;
            for (int fields = 0; fields < PLACE_SIZE; fields++) {
                if (((matching >>> fields) & 1) != 0 && deedOf(row, fields) == deeds[fields]) {
                    alike |= 1L << fields;
                }
            }
            return alike;
        }

        boolean dealAlike(int some, long[] matching, long[] alike, long droppable) {
            long left = -1L;
            for (int row = 0; row < size; row++) {
                if (hasBit(some, row)) {
                    if ((left & matching[row] & ~alike[row]) != 0) {
                        return false;
                    }
                    left &= ~matching[row];
                }
            }
            return (left & ~droppable) == 0;
        }

        // ---- rows made from a wish

        int remake(Wish wish, int box) {
            int[] outcomes = new int[PLACE_SIZE];
            for (int fields = 0; fields < PLACE_SIZE; fields++) {
                int packet = PLACE_SIZE * box + fields;
                if (wish.howMany(packet) > 1) {
                    return SEVERAL;
                }
                outcomes[fields] = wish.pick(packet, 0);
            }
            Table draft = new Table();
            if (!draft.coverAll(outcomes, box)) {
                return TOO_MANY_ROWS;
            }
            takeFrom(draft);
            return size;
        }

        boolean coverAll(int[] outcomes, int box) {
            long uncovered = -1L;
            for (int told = 0; told <= AT; told++) {
                for (int match = 0; match < PATTERNS; match++) {
                    long matching = howManyTold(match) == told ? packetsOf(match) & uncovered : 0;
                    int deed = matching == 0 ? UNRIGHT : rightRow(match, outcomes, box);
                    if (deed != UNRIGHT) {
                        if (addRow(match, deed / 16, deed % 16) == NONE) {
                            return false;
                        }
                        uncovered &= ~matching;
                    }
                }
            }
            return true;
        }

        static int howManyTold(int pattern) {
            int n = 0;
            for (int field = 0; field < AT; field++) {
                n += toldOf(pattern, field) != 0 ? 1 : 0;
            }
            return n;
        }

        /** 16 * what the row for a match sets + where it goes, or UNRIGHT. */
        static int rightRow(int match, int[] outcomes, int box) {
            int first = NONE;
            int some = 0;
            int none = 0;
            for (int fields = 0; fields < PLACE_SIZE; fields++) {
                if (isMatch(match, fields)) {
                    first = some == 0 ? outcomes[fields] : first;
                    some += outcomes[fields] == NONE ? 0 : 1;
                    none += outcomes[fields] == NONE ? 1 : 0;
                }
            }
            if (some == 0) {
                return DROPS;
            }
            if (none > 0 || !isOneFor(match, AT, outcomes)) {
                return UNRIGHT;
            }
            int change = 0;
            for (int field = 0; field < AT; field++) {
                boolean stays = staysFor(match, field, outcomes);
                if (!stays && !isOneFor(match, field, outcomes)) {
                    return UNRIGHT;
                }
                change = 5 * change + (stays ? 0 : 1 + valueOf(first, field));
            }
            int target = valueOf(first, AT);
            return 16 * change + (target == box ? LEAVES : target);
        }

        static boolean isOneFor(int match, int field, int[] outcomes) {
            int one = NONE;
            for (int fields = 0; fields < PLACE_SIZE; fields++) {
                if (isMatch(match, fields)) {
                    int value = valueOf(outcomes[fields], field);
                    if (one != NONE && one != value) {
                        return false;
                    }
                    one = value;
                }
            }
            return true;
        }

        static boolean staysFor(int match, int field, int[] outcomes) {
            for (int fields = 0; fields < PLACE_SIZE; fields++) {
                if (isMatch(match, fields) && valueOf(outcomes[fields], field) != valueOf(fields, field)) {
                    return false;
                }
            }
            return true;
        }
    }

    /** The tables of all boxes, the lines between them, and the ways of packets. */
    private static final class Network {
        static final int UNKNOWN = -9;
        static final int ON_THE_WAY = -8;

        final Table[] tables;
        long fallenLines;
        int entryPlaces;
        final int[] wayRows;
        int waySize;
        final long[] met;
        final int[] scratchEnds;

        Network() {
            tables = new Table[2 * PLACES];
            for (int i = 0; i < 2 * PLACES; i++) {
                tables[i] = new Table();
            }
            entryPlaces = ALL_PLACES;
            wayRows = new int[PACKETS];
            met = new long[PLACES];
            scratchEnds = new int[PACKETS];
        }

        Table tableAt(int version, int box) {
            return upTo(version, 1) && isBox(box) ? tables[PLACES * version + box] : null;
        }

        int countRows(int version) {
            int n = 0;
            for (int box = 0; box < PLACES; box++) {
                n += tables[PLACES * version + box].size;
            }
            return n;
        }

        int unlikeBoxes() {
            int bits = 0;
            for (int box = 0; box < PLACES; box++) {
                bits |= tables[box].isAlike(tables[PLACES + box]) ? 0 : 1 << box;
            }
            return bits;
        }

        void takeNewTables(int boxes) {
            for (int box = 0; box < PLACES; box++) {
                if (hasBit(boxes, box)) {
                    tables[box].takeFrom(tables[PLACES + box]);
                }
            }
        }

        static long lineBit(int from, int to) {
            return 1L << (PLACES * from + to);
        }

        boolean setFallen(int from, int to, boolean fallen) {
            long was = fallenLines;
            fallenLines = fallen ? was | lineBit(from, to) : was & ~lineBit(from, to);
            return fallenLines != was;
        }

        boolean isEntry(int packet) {
            return hasBit(entryPlaces, packet >> 6);
        }

        /** One step: the packet at its next place; PACKETS + what it ends as; or LOST. */
        int step(int packet, int version) {
            int box = packet >> 6;
            int deed = tables[PLACES * version + box].deeds[packet & 63];
            if (deed >= PACKETS) {
                return PACKETS + PLACE_SIZE * box + (deed & 63);
            }
            if (deed >= 0 && ((fallenLines >>> (PLACES * box + (deed >> 6))) & 1) != 0) {
                return LOST;
            }
            return deed;
        }

        static boolean goesOn(int step) {
            return step >= 0 && step < PACKETS;
        }

        static int endBy(int step) {
            return step >= PACKETS ? step - PACKETS : LOST;
        }

        static int versionOf(int packet, int boxes) {
            return (boxes >> (packet >> 6)) & 1;
        }

        /** What a packet ends as; keeps the rows by which it goes. */
        int follow(int packet, int boxes) {
            Arrays.fill(met, 0);
            waySize = 0;
            int at = packet;
            for (int n = 0; n < PACKETS; n++) {
                if (((met[at >> 6] >>> (at & 63)) & 1) != 0) {
                    return LOOP;
                }
                met[at >> 6] |= 1L << (at & 63);
                keepRow(at, versionOf(at, boxes));
                int next = step(at, versionOf(at, boxes));
                if (!goesOn(next)) {
                    return endBy(next);
                }
                at = next;
            }
            return LOOP;
        }

        void keepRow(int packet, int version) {
            int box = packet >> 6;
            int row = tables[PLACES * version + box].firstRows[packet & 63];
            if (waySize < PACKETS) {
                wayRows[waySize] = row == NONE ? LOST : 16 * box + row;
                waySize++;
            }
        }

        int[] endsBy(int boxes) {
            fillEnds(boxes, scratchEnds);
            return scratchEnds;
        }

        /** What each packet at an entry ends as; ways that meet are gone but once. */
        void fillEnds(int boxes, int[] ends) {
            Arrays.fill(ends, UNKNOWN);
            for (int packet = 0; packet < PACKETS; packet++) {
                if (isEntry(packet) && ends[packet] == UNKNOWN) {
                    settle(packet, boxes, ends);
                }
            }
        }

        void settle(int packet, int boxes, int[] ends) {
            int at = packet;
            for (int n = 0; n < PACKETS && goesOn(at) && ends[at] == UNKNOWN; n++) {
                ends[at] = ON_THE_WAY;
                at = step(at, versionOf(at, boxes));
            }
            int end = !goesOn(at) ? endBy(at) : ends[at] == ON_THE_WAY ? LOOP : ends[at];
            at = packet;
            for (int n = 0; n < PACKETS && goesOn(at) && ends[at] == ON_THE_WAY; n++) {
                ends[at] = end;
                at = step(at, versionOf(at, boxes));
            }
        }

        int firstUnlike(Wish wish, int[] ends) {
            for (int packet = 0; packet < PACKETS; packet++) {
                if (isEntry(packet)) {
                    int end = ends[packet];
                    if (end < 0 ? !wish.makesNone(packet) : !wish.makesJust(packet, end)) {
                        return packet;
                    }
                }
            }
            return NONE;
        }
    }

    /** Writing the old tables over: in which order, in which ticks, and what packets see of it. */
    private static final class Rollout {
        static final int MOST_STEPS = 100;
        static final int WIDEST_GAP = 9;

        final Network network;
        final int[] ticks;
        final int[] order;
        // NONE ahead of the first order.
        int orderSize;
        final int[] trial;
        final int[] dead;
        final int[] oldEnds;
        final int[] newEnds;
        // For the gap: of each packet what it is seen to end as, and its steps till then.
        final int[] settled;
        int[] ahead;
        int[] now;

        Rollout(Network network) {
            this.network = network;
            ticks = new int[PLACES];
            Arrays.fill(ticks, NONE);
            order = new int[PLACES];
            orderSize = NONE;
            trial = new int[PLACES];
            dead = new int[ALL_PLACES + 1];
            oldEnds = new int[PACKETS];
            newEnds = new int[PACKETS];
            settled = new int[2 * PACKETS];
            ahead = new int[2 * PACKETS];
            now = new int[2 * PACKETS];
        }

        int findOrder() {
            int unlike = network.unlikeBoxes();
            network.fillEnds(0, oldEnds);
            network.fillEnds(ALL_PLACES, newEnds);
            Arrays.fill(dead, 0);
            if (!leadsOn(this, 0, unlike, 0)) {
                return NO_ORDER;
            }
            orderSize = Integer.bitCount(unlike);
            System.arraycopy(trial, 0, order, 0, PLACES);
            return orderSize;
        }

        /** Whether the boxes that are left can follow; the depth is how many were written. */
        private static boolean leadsOn(Rollout rollout, int done, int all, int depth) {
            if (done == all || depth >= PLACES) {
                return done == all;
            }
            for (int box = 0; box < PLACES; box++) {
                int next = done | 1 << box;
                if (hasBit(all & ~done, box) && rollout.dead[next] == 0) {
                    rollout.trial[depth] = box;
                    if (rollout.isSafe(next) && leadsOn(rollout, next, all, depth + 1)) {
                        return true;
                    }
                    rollout.dead[next] = 1;
                }
            }
            return false;
        }

        boolean isSafe(int boxes) {
            int[] ends = network.scratchEnds;
            network.fillEnds(boxes, ends);
            for (int packet = 0; packet < PACKETS; packet++) {
                if (network.isEntry(packet) && isNeither(packet, ends[packet])) {
                    return false;
                }
            }
            return true;
        }

        boolean isNeither(int packet, int end) {
            return end != oldEnds[packet] && end != newEnds[packet];
        }

        static int versionIn(int tick, int writtenIn) {
            return writtenIn != NONE && writtenIn <= tick ? 1 : 0;
        }

        int watch(int packet, int tick) {
            int at = packet;
            for (int n = 0; n < MOST_STEPS; n++) {
                int next = network.step(at, versionIn(tick + n, ticks[at >> 6]));
                if (!Network.goesOn(next)) {
                    return Network.endBy(next);
                }
                at = next;
            }
            return LOOP;
        }

        int countNeither(int tick, int k) {
            int inUse = 0;
            for (int box = 0; box < PLACES; box++) {
                inUse |= ticks[box] == NONE ? 0 : 1 << box;
            }
            network.fillEnds(0, oldEnds);
            network.fillEnds(inUse, newEnds);
            int n = 0;
            for (int packet = 0; packet < PACKETS; packet++) {
                if (network.isEntry(packet) && isNeither(packet, watch(packet, tick))) {
                    if (n == k) {
                        return packet;
                    }
                    n++;
                }
            }
            return k == NONE ? n : NONE;
        }

        // ---- the gap

        int findGap() {
            if (orderSize <= 0) {
                return NONE;
            }
            int inUse = 0;
            for (int i = 0; i < orderSize; i++) {
                inUse |= 1 << order[i];
            }
            network.fillEnds(0, oldEnds);
            network.fillEnds(inUse, newEnds);
            settleAll(inUse);
            if (!isQuietAhead(settled)) {
                return NO_ORDER;
            }
            for (int gap = 1; gap <= WIDEST_GAP; gap++) {
                if (isQuiet(gap)) {
                    return gap;
                }
            }
            return NO_ORDER;
        }

        /** How packets fare once all is written. */
        void settleAll(int boxes) {
            for (int packet = 0; packet < PACKETS; packet++) {
                int at = packet;
                int steps = 0;
                for (int n = 0; n < MOST_STEPS && Network.goesOn(at); n++) {
                    at = network.step(at, Network.versionOf(at, boxes));
                    steps = n + 1;
                }
                settled[2 * packet] = Network.goesOn(at) ? LOOP : Network.endBy(at);
                settled[2 * packet + 1] = Network.goesOn(at) ? MOST_STEPS + 1 : steps;
            }
        }

        /** Goes back tick by tick from the last write, so that each way is a step and a way known already. */
        boolean isQuiet(int gap) {
            System.arraycopy(settled, 0, ahead, 0, 2 * PACKETS);
            for (int tick = gap * (orderSize - 1) - 1; tick >= 0; tick--) {
                goBackTo(writtenBy(tick, gap));
                int[] swapped = ahead;
                ahead = now;
                now = swapped;
                if (!isQuietAhead(ahead)) {
                    return false;
                }
            }
            return true;
        }

        int writtenBy(int tick, int gap) {
            int boxes = 0;
            for (int i = 0; i < orderSize; i++) {
                boxes |= i * gap <= tick ? 1 << order[i] : 0;
            }
            return boxes;
        }

        void goBackTo(int boxes) {
            for (int packet = 0; packet < PACKETS; packet++) {
                int next = network.step(packet, Network.versionOf(packet, boxes));
                boolean goesOn = Network.goesOn(next);
                now[2 * packet] = goesOn ? ahead[2 * next] : Network.endBy(next);
                now[2 * packet + 1] = goesOn ? Math.min(ahead[2 * next + 1], MOST_STEPS) + 1 : 1;
            }
        }

        boolean isQuietAhead(int[] sight) {
            for (int packet = 0; packet < PACKETS; packet++) {
                int end = sight[2 * packet + 1] > MOST_STEPS ? LOOP : sight[2 * packet];
                if (network.isEntry(packet) && isNeither(packet, end)) {
                    return false;
                }
            }
            return true;
        }
    }

    /** Which lines' fall is the worst. */
    private static final class Storm {
        static final int LINES = PLACES * PLACES;

        final Network network;
        final int[] struck;
        int struckCount;
        int most;
        // For each packet at an entry that ends, the lines by which it goes.
        final long[] trails;
        int trailCount;
        final int[] alsoHit;

        Storm(Network network) {
            this.network = network;
            struck = new int[2];
            trails = new long[PACKETS];
            alsoHit = new int[LINES];
        }

        int strike(int n) {
            long lines = linesInUse();
            if (Long.bitCount(lines) < n) {
                return NONE;
            }
            keepTrails();
            most = NONE;
            struckCount = n;
            for (int line = 0; line < LINES; line++) {
                if (isAmong(lines, line)) {
                    int hit = countHit(line);
                    if (n == 1) {
                        consider(hit, line, NONE);
                    } else {
                        considerPairs(hit, line, lines);
                    }
                }
            }
            return most;
        }

        void considerPairs(int hit, int line, long lines) {
            for (int other = line + 1; other < LINES; other++) {
                if (isAmong(lines, other)) {
                    consider(hit + alsoHit[other], line, other);
                }
            }
        }

        void consider(int hit, int line, int other) {
            if (hit > most) {
                most = hit;
                struck[0] = line;
                struck[1] = other;
            }
        }

        static boolean isAmong(long lines, int line) {
            return ((lines >>> line) & 1) != 0;
        }

        long linesInUse() {
            long lines = 0;
            for (int box = 0; box < PLACES; box++) {
                Table table = network.tables[box];
                for (int row = 0; row < table.size; row++) {
                    if (isLine(box, table.targets[row])) {
                        lines |= Network.lineBit(box, table.targets[row]);
                    }
                }
            }
            return lines & ~network.fallenLines;
        }

        void keepTrails() {
            int[] ends = network.endsBy(0);
            trailCount = 0;
            for (int packet = 0; packet < PACKETS; packet++) {
                if (network.isEntry(packet) && ends[packet] >= 0) {
                    trails[trailCount] = trailOf(packet);
                    trailCount++;
                }
            }
        }

        long trailOf(int packet) {
            long lines = 0;
            int at = packet;
            for (int n = 0; n < PACKETS; n++) {
                int next = network.step(at, 0);
                if (!Network.goesOn(next)) {
                    return lines;
                }
                if (isLine(at >> 6, next >> 6)) {
                    lines |= Network.lineBit(at >> 6, next >> 6);
                }
                at = next;
            }
            return lines;
        }

        /** How many packets go by a line; of the others, how many go by each other line. */
        int countHit(int line) {
            Arrays.fill(alsoHit, 0);
            int hit = 0;
            for (int i = 0; i < trailCount; i++) {
                long rest = trails[i];
                if (isAmong(rest, line)) {
                    hit++;
                    continue;
                }
                for (int n = Long.bitCount(rest); n > 0; n--) {
                    alsoHit[lowestBit(rest)]++;
                    rest &= rest - 1;
                }
            }
            return hit;
        }
    }

    /** Rows that boxes have room for, and counts that boxes tell. */
    private static final class Ledger {
        final int[] room;
        int chosen;
        int chosenValue;
        final int[] sent;
        final int[] received;

        Ledger() {
            room = new int[PLACES];
            sent = new int[PLACES * PLACES];
            received = new int[PLACES * PLACES];
        }

        int setRoom(int box, int n) {
            int was = room[box];
            room[box] = n;
            return was;
        }

        /** Tries all sets; as their numbers rise, the first one of several that are as good is the least. */
        void choose(Wish[] wishes, int size) {
            chosen = 0;
            chosenValue = 0;
            for (int some = 1; some < 1 << Math.min(size, WISHES); some++) {
                int value = valueTogether(wishes, some);
                boolean fewer = Integer.bitCount(some) < Integer.bitCount(chosen);
                if ((value > chosenValue || value == chosenValue && fewer) && hasRoomFor(wishes, some)) {
                    chosen = some;
                    chosenValue = value;
                }
            }
        }

        static int valueTogether(Wish[] wishes, int some) {
            int value = 0;
            for (int i = 0; i < WISHES; i++) {
                value += hasBit(some, i) ? wishes[i].value : 0;
            }
            return value;
        }

        boolean hasRoomFor(Wish[] wishes, int some) {
            for (int box = 0; box < PLACES; box++) {
                int rows = 0;
                for (int i = 0; i < WISHES; i++) {
                    rows += hasBit(some, i) ? wishes[i].rowsNeeded[box] : 0;
                }
                if (rows > room[box]) {
                    return false;
                }
            }
            return true;
        }

        int tellCount(int from, int to, boolean got, int n) {
            int[] told = got ? received : sent;
            int was = told[PLACES * from + to];
            told[PLACES * from + to] = n;
            return was;
        }

        int fewestLiars() {
            int best = ALL_PLACES;
            for (int boxes = 0; boxes <= ALL_PLACES; boxes++) {
                if (Integer.bitCount(boxes) < Integer.bitCount(best) && explain(boxes)) {
                    best = boxes;
                }
            }
            return best;
        }

        boolean explain(int boxes) {
            for (int line = 0; line < PLACES * PLACES; line++) {
                if (sent[line] != received[line]
                        && !hasBit(boxes, line / PLACES) && !hasBit(boxes, line % PLACES)) {
                    return false;
                }
            }
            return true;
        }
    }

    /** Tells a tree back as a text. */
    private static final class Teller {
        // How strongly signs bind: a part that binds less than its place asks for stands in ( ).
        static final int BY_EITHER = 0;
        static final int BY_THEN = 1;
        static final int BY_STAR = 2;
        // A tree of 40 atoms has no more joints below one another.
        static final int DEEPEST = 40;

        final int[] out;
        int outSize;
        final Tree shortTree;
        final int[] shortNodes;

        Teller() {
            out = new int[TAPE];
            shortTree = new Tree(TAPE);
            shortNodes = new int[TAPE];
        }

        int putAll(Tree tree) {
            outSize = 0;
            put(tree, tree.size - 1, BY_EITHER, 0);
            return outSize;
        }

        int putShorter(Tree tree) {
            outSize = 0;
            put(shortTree, shorten(tree), BY_EITHER, 0);
            return outSize;
        }

        private void put(Tree tree, int root, int asked, int depth) {
            if (depth > DEEPEST || root < 0) {
                return;
            }
            int node = root;
            int stars = 0;
            for (int n = 0; n < TAPE && tree.kinds[node] == Tree.STAR; n++) {
                node = tree.lefts[node];
                stars++;
            }
            boolean brackets = bindingOf(tree.kinds[node]) < (stars > 0 ? BY_STAR : asked);
            if (brackets) {
                putByte('(');
            }
            putBare(tree, node, depth);
            if (brackets) {
                putByte(')');
            }
            for (int n = 0; n < stars; n++) {
                putByte('*');
            }
        }

        private void putBare(Tree tree, int node, int depth) {
            int kind = tree.kinds[node];
            if (kind == Tree.EITHER) {
                put(tree, tree.lefts[node], BY_EITHER, depth + 1);
                putByte('+');
                put(tree, tree.rights[node], BY_THEN, depth + 1);
            } else if (kind == Tree.THEN) {
                put(tree, tree.lefts[node], BY_THEN, depth + 1);
                putByte(';');
                put(tree, tree.rights[node], BY_STAR, depth + 1);
            } else {
                putAtom(kind, tree.lefts[node], tree.rights[node]);
            }
        }

        void putAtom(int kind, int field, int value) {
            if (kind == Tree.ZERO || kind == Tree.ONE) {
                putByte(kind == Tree.ZERO ? '0' : '1');
                return;
            }
            if (kind == Tree.UNLESS) {
                putByte('!');
            }
            putByte(field == AT ? 'a' : 'a' + field);
            if (field == AT) {
                putByte('t');
            }
            putByte(kind == Tree.CHANGE ? ':' : '=');
            putByte('0' + value);
        }

        void putByte(int sign) {
            if (outSize < TAPE) {
                out[outSize] = sign;
                outSize++;
            }
        }

        static int bindingOf(int kind) {
            return kind == Tree.EITHER ? BY_EITHER : kind == Tree.THEN ? BY_THEN : BY_STAR;
        }

        // ---- laws

        /** Builds the shorter tree, where trees that are alike are one node; its root. */
        int shorten(Tree tree) {
            shortTree.size = 0;
            for (int i = 0; i < tree.size && i < TAPE; i++) {
                int kind = tree.kinds[i];
                int left = tree.lefts[i];
                int right = tree.rights[i];
                if (kind == Tree.STAR) {
                    shortNodes[i] = shortStar(shortNodes[left]);
                } else if (kind == Tree.EITHER) {
                    shortNodes[i] = shortEither(shortNodes[left], shortNodes[right]);
                } else if (kind == Tree.THEN) {
                    shortNodes[i] = shortThen(shortNodes[left], shortNodes[right]);
                } else {
                    shortNodes[i] = shortTree.findOrAdd(kind, left, right);
                }
            }
            return tree.size > 0 ? shortNodes[tree.size - 1] : NONE;
        }

        int shortStar(int s) {
            int kind = shortTree.kinds[s];
            if (kind == Tree.ZERO || kind == Tree.ONE) {
                return shortTree.findOrAdd(Tree.ONE, 0, 0);
            }
            return kind == Tree.STAR ? s : shortTree.findOrAdd(Tree.STAR, s, 0);
        }

        int shortEither(int s, int t) {
            if (s == t || shortTree.kinds[t] == Tree.ZERO) {
                return s;
            }
            return shortTree.kinds[s] == Tree.ZERO ? t : shortTree.findOrAdd(Tree.EITHER, s, t);
        }

        int shortThen(int s, int t) {
            int first = shortTree.kinds[s];
            int second = shortTree.kinds[t];
            if (first == Tree.ZERO || second == Tree.ONE) {
                return s;
            }
            if (first == Tree.ONE || second == Tree.ZERO) {
                return t;
            }
            boolean ofOneField = isPlain(first) && isPlain(second) && shortTree.lefts[s] == shortTree.lefts[t];
            int shorter = ofOneField ? shortField(s, t) : NONE;
            return shorter == NONE ? shortTree.findOrAdd(Tree.THEN, s, t) : shorter;
        }

        static boolean isPlain(int kind) {
            return kind == Tree.TEST || kind == Tree.CHANGE;
        }

        /** Tests and changes of one field, one behind the other; NONE where no law speaks of them. */
        int shortField(int s, int t) {
            boolean alike = shortTree.rights[s] == shortTree.rights[t];
            if (shortTree.kinds[t] == Tree.TEST) {
                return alike ? s : shortTree.findOrAdd(Tree.ZERO, 0, 0);
            }
            if (shortTree.kinds[s] == Tree.CHANGE) {
                return t;
            }
            return alike ? s : NONE;
        }
    }

    /** Cables, and which flows are known if some are tapped. */
    private static final class Cabling {
        static final int MOST = 16;

        final int[] ends;
        final int[] otherEnds;
        int size;
        int edgeBoxes;

        Cabling() {
            ends = new int[MOST];
            otherEnds = new int[MOST];
        }

        int lay(int a, int b) {
            if (size >= MOST) {
                return NONE;
            }
            ends[size] = a;
            otherEnds[size] = b;
            size++;
            return size - 1;
        }

        boolean areThere(int cables) {
            return upTo(cables, (1 << size) - 1);
        }

        int knownWith(int tapped) {
            int bits = tapped;
            for (int cable = 0; cable < size; cable++) {
                if (!hasBit(tapped, cable) && !isOnRing(cable, tapped)) {
                    bits |= 1 << cable;
                }
            }
            return bits;
        }

        /** Whether other cables lead from one of its ends to the other. */
        boolean isOnRing(int cable, int tapped) {
            int reached = groupOf(ends[cable]);
            for (int n = 0; n < PLACES; n++) {
                for (int i = 0; i < size; i++) {
                    if (i != cable && !hasBit(tapped, i)) {
                        int both = groupOf(ends[i]) | groupOf(otherEnds[i]);
                        reached |= (reached & both) != 0 ? both : 0;
                    }
                }
            }
            return hasBit(reached, otherEnds[cable]);
        }

        int groupOf(int box) {
            return hasBit(edgeBoxes, box) ? edgeBoxes : 1 << box;
        }

        /**
         * What taps make known is the closure of a matroid (the dual of the cables' forests), so the fewest taps
         * are a base of all that these cables make known, and taking the first ones that tell anew is the least.
         */
        int fewestTaps(int cables) {
            int follows = knownWith(cables);
            int tapped = 0;
            for (int cable = 0; cable < size; cable++) {
                if (hasBit(follows, cable) && !hasBit(knownWith(tapped), cable)) {
                    tapped |= 1 << cable;
                }
            }
            return tapped;
        }
    }
}
