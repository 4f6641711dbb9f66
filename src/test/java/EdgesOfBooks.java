/** Parts V and VII of the terms, promises 28 to 32, 35 to 38 and 45: room, worth, counts, cables, what is counted. */
final class EdgesOfBooks extends Edges {
    EdgesOfBooks(Checks checks, Doc doc) {
        super(checks, doc);
    }

    @Override
    void all() {
        needs();
        worth();
        kept();
        keptTerms();
        counts();
        liars();
        cables();
        edges();
        known();
        taps();
        tapsTerms();
        counting();
    }

    private static WishWays withWishes(int n) {
        WishWays x = new WishWays();
        for (int i = 0; i < n; i++) {
            Checks.wish(x, 0, "1");
        }
        return x;
    }

    // ---- promises 28 to 30

    private void needs() {
        says(28, "ROWS NEEDED: what they were");
        WishWays x = withWishes(12);
        for (int box = 0; box < 8; box++) {
            due("0 at first", x.needs(11, box, 99), 0);
            due("99", x.needs(11, box, 0), 99);
            due("0", x.needs(11, box, 10 + box), 0);
        }
        due("another wish", x.needs(0, 7, 1), 0);
        says(28, "NONE, and nothing happens, for others.");
        refused("wish", 0, 11, NONE, n -> x.needs(n, 0, 5));
        refused("box", 0, 7, NONE, n -> x.needs(11, n, 5));
        refused("rows", 0, 99, NONE, n -> x.needs(11, 7, n));
        due("a wish that is not yet there", withWishes(1).needs(1, 0, 0), NONE);
        for (int box = 0; box < 8; box++) {
            due("nothing happened", x.needs(11, box, 0), 10 + box);
        }
        term("ROWS NEEDED by a WISH in a BOX (0 to 99), its WORTH (0 to 999), ROOM of a BOX (0 to 999), all 0 at first.");
        WishWays y = withWishes(2);
        for (int wish = 0; wish < 2; wish++) {
            due("worth 0 at first", y.worth(0, wish, 999), 0);
            due("999", y.worth(0, wish, 0), 999);
            for (int box = 0; box < 8; box++) {
                due("needs 0 at first", y.needs(wish, box, 99), 0);
                due("99", y.needs(wish, box, 0), 99);
            }
        }
        for (int box = 0; box < 8; box++) {
            due("room 0 at first", y.worth(1, box, 999), 0);
            due("999", y.worth(1, box, 0), 999);
        }
    }

    private void worth() {
        says(29, "WORTH of a WISH (what 0) or ROOM of a BOX (1): what it was");
        WishWays x = withWishes(2);
        due("worth", x.worth(0, 1, 999), 0);
        due("room is another", x.worth(1, 1, 998), 0);
        due("worth was", x.worth(0, 1, 5), 999);
        due("room was", x.worth(1, 1, 6), 998);
        due("room of a box without a wish of its number", x.worth(1, 7, 7), 0);
        says(29, "NONE, and nothing happens, for others.");
        refused("what", 0, 1, NONE, n -> x.worth(n, 1, 1));
        refused("wish", 0, 1, NONE, n -> x.worth(0, n, 1));
        refused("box", 0, 7, NONE, n -> x.worth(1, n, 1));
        refused("worth", 0, 999, NONE, n -> x.worth(0, 1, n));
        refused("room", 0, 999, NONE, n -> x.worth(1, 1, n));
        due("nothing happened", x.worth(0, 1, 5), 5);
        due("nothing happened", x.worth(1, 1, 6), 6);
        due("nothing happened", x.worth(1, 7, 7), 7);
        due("nothing happened", x.worth(0, 0, 0), 0);
    }

    private void kept() {
        says(30, "KEPT, what 0: as bits, 1: its WORTH.");
        WishWays none = new WishWays();
        due("no wishes", none.kept(0), 0);
        due("no worth", none.kept(1), 0);
        WishWays x = withWishes(12);
        due("worth nothing", x.kept(0), 0);
        due("worth nothing", x.kept(1), 0);
        for (int i = 0; i < 12; i++) {
            x.worth(0, i, 999);
        }
        due("all", x.kept(0), 4095);
        due("all", x.kept(1), 12 * 999);
        for (int i = 0; i < 12; i++) {
            x.needs(i, 7, 99);
        }
        x.worth(1, 7, 999);
        due("ten of them have room", x.kept(0), 1023);
        due("ten of them", x.kept(1), 9990);
        x.worth(1, 7, 989);
        due("nine", x.kept(0), 511);
        x.worth(1, 7, 98);
        due("none", x.kept(0), 0);
        due("none", x.kept(1), 0);
        says(30, "NONE for another what.");
        refused("what", 0, 1, NONE, x::kept);
    }

    private void keptTerms() {
        term("KEPT: the set of WISHES whose ROWS have ROOM in all BOXES, with the greatest WORTH together");
        for (int box = 0; box < 8; box++) {
            WishWays x = withWishes(2);
            x.worth(0, 0, 1);
            x.worth(0, 1, 2);
            x.needs(0, box, 3);
            x.needs(1, box, 4);
            x.worth(1, box, 7);
            due("just room for both", x.kept(0), 3);
            x.worth(1, box, 6);
            due("a row too few: the greater worth", x.kept(0), 2);
            x.worth(1, box, 4);
            due("just room for that", x.kept(0), 2);
            x.worth(1, box, 3);
            due("just room for the other", x.kept(0), 1);
            x.worth(1, box, 2);
            due("room for none", x.kept(0), 0);
        }
        WishWays y = withWishes(3);
        for (int i = 0; i < 3; i++) {
            y.worth(0, i, i == 0 ? 3 : 2);
            y.needs(i, 0, i == 0 ? 2 : 1);
        }
        y.worth(1, 0, 2);
        due("two small ones together are worth more", y.kept(0), 6);
        term("of several the fewest WISHES");
        y.worth(0, 0, 4);
        due("as much by one", y.kept(0), 1);
        WishWays later = withWishes(3);
        for (int i = 0; i < 3; i++) {
            later.worth(0, i, i == 2 ? 4 : 2);
            later.needs(i, 0, i == 2 ? 2 : 1);
        }
        later.worth(1, 0, 2);
        due("as much by one that is told later", later.kept(0), 4);
        WishWays z = withWishes(4);
        due("those worth nothing are not kept", z.kept(0), 0);
        z.worth(0, 2, 1);
        due("but the one", z.kept(0), 4);
        term("then the least number (WISH i is bit i)");
        WishWays inner = withWishes(4);
        for (int i = 0; i < 4; i++) {
            inner.worth(0, i, 1 + i);
            inner.needs(i, 7, 1 + i);
        }
        inner.worth(1, 7, 5);
        due("1 and 2, not 0 and 3", inner.kept(0), 6);
        due("worth as much", inner.kept(1), 5);
        WishWays w = withWishes(12);
        for (int i = 0; i < 12; i++) {
            w.worth(0, i, 7);
            w.needs(i, 3, 2);
        }
        w.worth(1, 3, 5);
        due("two of twelve", w.kept(0), 3);
        w.needs(0, 3, 6);
        due("two of the eleven others", w.kept(0), 6);
        w.worth(0, 11, 8);
        due("the one worth more, and the least", w.kept(0), 2048 + 2);
    }

    // ---- promises 31 and 32

    private void counts() {
        says(31, "COUNTS: a BOX says what it sent (got false) to, or got (true) from another one: what it was");
        WishWays x = new WishWays();
        due("sent, 0 at first", x.counts(0, 7, false, 999999), 0);
        due("got, 0 at first", x.counts(0, 7, true, 999998), 0);
        due("sent", x.counts(0, 7, false, 0), 999999);
        due("got", x.counts(0, 7, true, 1), 999998);
        due("sent", x.counts(0, 7, false, 2), 0);
        says(31, "(from is where the LINE goes from in any case.)");
        due("the other way is another line", x.counts(7, 0, true, 5), 0);
        due("and stays so", x.counts(7, 0, true, 5), 5);
        due("got by 7 from 0", x.counts(0, 7, true, 1), 1);
        says(31, "NONE, and nothing happens, for others.");
        refused("from", 0, 7, NONE, n -> x.counts(n, 7, false, 9));
        refused("to", 0, 7, NONE, n -> x.counts(0, n, true, 9));
        refused("sent", 0, 999999, NONE, n -> x.counts(0, 7, false, n));
        refused("got", 0, 999999, NONE, n -> x.counts(0, 7, true, n));
        for (int box = 0; box < 8; box++) {
            due("to itself", x.counts(box, box, box % 2 == 0, 1), NONE);
        }
        due("nothing happened", x.counts(0, 7, false, 3), 2);
        due("nothing happened", x.counts(0, 7, true, 3), 1);
        term("COUNTS: what a BOX says it sent by a LINE and what the other says it got by it (0 to 999999; as told last, both 0 at first).");
        WishWays y = new WishWays();
        for (int from = 0; from < 8; from++) {
            for (int to = 0; to < 8; to++) {
                if (from != to) {
                    due("sent", y.counts(from, to, false, 10 * from + to), 0);
                    due("got", y.counts(from, to, true, 100 + 10 * from + to), 0);
                }
            }
        }
        for (int from = 0; from < 8; from++) {
            for (int to = 0; to < 8; to++) {
                if (from != to) {
                    due("sent", y.counts(from, to, false, 0), 10 * from + to);
                    due("got", y.counts(from, to, true, 0), 100 + 10 * from + to);
                }
            }
        }
    }

    private void liars() {
        says(32, "LIARS as bits.");
        WishWays x = new WishWays();
        due("nobody", x.liars(), 0);
        x.counts(6, 7, false, 1);
        due("one line: the lesser of its boxes", x.liars(), 64);
        x.counts(6, 7, true, 1);
        due("both say the same", x.liars(), 0);
        x.counts(6, 7, true, 999999);
        due("got more than sent", x.liars(), 64);
        term("LIARS: the fewest BOXES so that each LINE with unlike COUNTS is from or to one of them");
        x.counts(7, 5, true, 1);
        due("the one of both lines", x.liars(), 128);
        x.counts(6, 5, false, 1);
        due("two of a ring", x.liars(), 96);
        x.counts(4, 7, false, 1);
        due("7 and 5", x.liars(), 128 + 32);
        WishWays all = new WishWays();
        for (int from = 0; from < 8; from++) {
            for (int to = from + 1; to < 8; to++) {
                all.counts(from, to, false, 1);
            }
        }
        due("all lines: seven", all.liars(), 127);
        WishWays star = new WishWays();
        for (int to = 0; to < 7; to++) {
            star.counts(to, 7, true, 1);
        }
        due("one for seven lines", star.liars(), 128);
        term("of several the least number.");
        WishWays y = new WishWays();
        y.counts(7, 6, false, 1);
        y.counts(5, 4, true, 1);
        due("the lesser of each", y.liars(), 64 + 16);
        y.counts(4, 6, true, 1);
        due("two of three lines in a row", y.liars(), 64 + 16);
        y.counts(7, 5, true, 1);
        due("a ring of four: 4 and 7, or 5 and 6", y.liars(), 96);
    }

    // ---- promises 35 to 38

    private void cables() {
        says(35, "A CABLE: its number");
        WishWays x = new WishWays();
        for (int n = 0; n < 16; n++) {
            due("the next number", x.cable(n % 8, (n + 1) % 8), n);
        }
        says(35, "NONE: there are 16, or something is not as told.");
        due("there are 16", x.cable(0, 1), NONE);
        due("16", x.count(7), 16);
        WishWays y = new WishWays();
        refused("a", 0, 7, NONE, n -> y.cable(n, 3));
        refused("b", 0, 7, NONE, n -> y.cable(3, n));
        for (int box = 0; box < 8; box++) {
            due("from a box to itself", y.cable(box, box), NONE);
        }
        due("none", y.count(7), 0);
        term("CABLES 0 to 15, each between two BOXES (two may be between the same).");
        for (int n = 0; n < 16; n++) {
            due("between the same", y.cable(7, 0), n);
        }
        due("a seventeenth", y.cable(7, 0), NONE);
        due("none is known", y.known(0), 0);
        due("all are tapped", y.known(65535), 65535);
        due("all but the last: that is known", y.known(32767), 65535);
        due("all but two", y.known(16383), 16383);
    }

    private void edges() {
        says(36, "EDGES: what they were");
        WishWays x = new WishWays();
        due("none at first", x.edges(255), 0);
        due("all", x.edges(128), 255);
        due("one", x.edges(0), 128);
        due("none", x.edges(1), 0);
        says(36, "NONE, and nothing happens, for others.");
        refused("boxes", 0, 255, NONE, x::edges);
        due("nothing happened", x.edges(0), 1);
        term("EDGES: BOXES (bits; none at first) at which PACKETS come and go; at all others as many go as come, on all CABLES together.");
        WishWays y = new WishWays();
        y.cable(0, 1);
        y.cable(1, 7);
        due("no edges: what ends somewhere flows nothing", y.known(0), 3);
        y.edges(1 + 128);
        due("from edge to edge", y.known(0), 0);
        due("what flows by one flows by the other", y.known(1), 3);
        due("what flows by one flows by the other", y.known(2), 3);
        y.edges(1 + 2 + 128);
        due("at 1 some come and go, too", y.known(1), 1);
        term("Of TAPPED CABLES it is known what flows.");
        due("tapped", y.known(3), 3);
        due("tapped", y.known(2), 2);
    }

    private void known() {
        WishWays x = new WishWays();
        says(37, "KNOWN CABLES as bits, with some TAPPED (bits, of those that are there)");
        due("no cables", x.known(0), 0);
        x.cable(0, 1);
        due("one", x.known(0), 1);
        due("one, tapped", x.known(1), 1);
        x.cable(0, 1);
        due("two between the same", x.known(0), 0);
        due("one of them tapped", x.known(2), 3);
        says(37, "NONE without these.");
        refused("tapped", 0, 3, NONE, x::known);
        due("of no cables", new WishWays().known(1), NONE);
        term("KNOWN is a CABLE that is TAPPED, or that lies on no ring of CABLES that are not TAPPED, if all EDGES are taken as one BOX (a CABLE between two EDGES is a ring by itself; so are two between the same).");
        WishWays y = new WishWays();
        for (int box = 0; box < 8; box++) {
            y.cable(box, (box + 1) % 8);
        }
        y.cable(0, 4);
        due("two rings", y.known(0), 0);
        due("one of a ring tapped: the rest of it is none", y.known(1), 1 + 2 + 4 + 8);
        due("what both have tapped: one ring is left", y.known(256), 256);
        due("one of each", y.known(1 + 16), 511);
        y.edges(1 << 2 | 1 << 6);
        due("2 and 6 as one: the ring 2 3 4 0 7 is left", y.known(1 + 16), 1 + 2 + 16 + 32);
        due("one more", y.known(1 + 16 + 256), 511);
        y.edges(1 << 7);
        due("one edge alone joins nothing", y.known(1 + 16), 511);
        WishWays z = new WishWays();
        z.cable(3, 5);
        z.cable(5, 6);
        z.edges(1 << 3 | 1 << 5);
        due("between two edges", z.known(0), 2);
        due("tapped", z.known(1), 3);
    }

    private void taps() {
        WishWays x = new WishWays();
        says(38, "TAPS for CABLES (bits, of those that are there)");
        due("no cables", x.taps(0), 0);
        for (int n = 0; n < 16; n++) {
            x.cable(7, 0);
        }
        due("for none", x.taps(0), 0);
        due("for the last one", x.taps(32768), 32768);
        due("for all: all but one", x.taps(65535), 32767);
        due("for all but one: these", x.taps(65534), 32767);
        due("for all but two", x.taps(65532), 65532);
        says(38, "NONE without these.");
        refused("cables", 0, 65535, NONE, x::taps);
        refused("known", 0, 65535, NONE, x::known);
        due("of no cables", new WishWays().taps(1), NONE);
        WishWays y = new WishWays();
        y.cable(1, 2);
        refused("of one", 0, 1, NONE, y::taps);
    }

    private void tapsTerms() {
        term("TAPS for CABLES (bits): the fewest CABLES to be TAPPED so that all of these are KNOWN; of several the least number.");
        WishWays x = new WishWays();
        x.cable(0, 1);
        x.cable(1, 2);
        x.cable(2, 0);
        x.cable(2, 3);
        due("a bridge needs none", x.taps(8), 0);
        due("one of a ring: by the least of it", x.taps(4), 1);
        due("a ring and a bridge", x.taps(15), 1);
        x.edges(1 | 8);
        due("two rings", x.taps(15), 1 + 4);
        due("0 and 1 tell one another", x.taps(3), 1);
        due("2 alone is not told by others", x.taps(4), 4);
        due("3 is: by 0 and 2, but it is fewer by itself", x.taps(8), 8);
        due("all edges", x.edges(255), 9);
        due("each for itself", x.taps(11), 11);
    }

    // ---- promise 45

    private void counting() {
        WishWays x = new WishWays();
        says(45, "What 0: WISHES, 1: ROWS of OLD TABLES, 2: of NEW ones, 3: LINES that have FALLEN, 4: bytes of the TAPE, 5: BOXES whose OLD and NEW ROWS are unlike, 6: bytes of OUT, 7: CABLES.");
        for (int what = 0; what <= 7; what++) {
            due("0 at first", x.count(what), 0);
        }
        Checks.wish(x, 0, "a=1");
        Checks.wish(x, 0, ")");
        Checks.put(x, "1234");
        x.row(0, 7, 0, 0, 8);
        x.row(0, 7, 0, 0, 8);
        x.row(1, 7, 0, 0, 8);
        x.row(1, 0, 0, 0, 8);
        x.row(1, 0, 0, 0, 8);
        x.line(7, 0, true);
        x.line(0, 7, true);
        x.line(0, 7, false);
        x.tell(0, false);
        for (int n = 0; n < 5; n++) {
            x.cable(0, 7);
        }
        int[] want = {1, 2, 3, 1, 4, 2, 3, 5};
        for (int what = 0; what <= 7; what++) {
            due("count " + what, x.count(what), want[what]);
        }
        says(45, "NONE for others.");
        refused("what", 0, 7, NONE, x::count);
    }
}
