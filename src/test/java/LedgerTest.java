/** Promises 28 to 32, 35 to 38 and 45: room and worth, liars, cables and taps, what is counted. */
public final class LedgerTest {
    private static final Checks CHECKS = new Checks();

    public static void main(String[] args) {
        needs();
        worth();
        kept();
        counts();
        liars();
        cables();
        edges();
        known();
        taps();
        counting();
        CHECKS.finish("LedgerTest");
    }

    private static void due(String call, long got, long want) {
        CHECKS.due(call, got, want);
    }

    private static WishWays withWishes(int n) {
        WishWays x = new WishWays();
        for (int i = 0; i < n; i++) {
            Checks.wish(x, 0, "1");
        }
        return x;
    }

    private static void needs() {
        CHECKS.promise(28);
        WishWays x = withWishes(2);
        due("0 at first", x.needs(1, 7, 99), 0);
        due("was", x.needs(1, 7, 0), 99);
        due("was", x.needs(1, 7, 3), 0);
        due("100", x.needs(1, 7, 100), -1);
        due("-1", x.needs(1, 7, -1), -1);
        due("box 8", x.needs(1, 8, 1), -1);
        due("box -1", x.needs(1, -1, 1), -1);
        due("wish 2", x.needs(2, 0, 1), -1);
        due("wish -1", x.needs(-1, 0, 1), -1);
        due("nothing happened", x.needs(1, 7, 3), 3);
        due("another box", x.needs(1, 6, 3), 0);
        due("another wish", x.needs(0, 7, 3), 0);
    }

    private static void worth() {
        CHECKS.promise(29);
        WishWays x = withWishes(2);
        due("worth", x.worth(0, 1, 999), 0);
        due("was", x.worth(0, 1, 5), 999);
        due("room", x.worth(1, 1, 999), 0);
        due("was", x.worth(1, 1, 6), 999);
        due("box 7", x.worth(1, 7, 1), 0);
        due("wish 2", x.worth(0, 2, 1), -1);
        due("wish -1", x.worth(0, -1, 1), -1);
        due("box 8", x.worth(1, 8, 1), -1);
        due("box -1", x.worth(1, -1, 1), -1);
        due("1000", x.worth(0, 1, 1000), -1);
        due("-1", x.worth(1, 1, -1), -1);
        due("what 2", x.worth(2, 0, 1), -1);
        due("what -1", x.worth(-1, 0, 1), -1);
        due("nothing happened", x.worth(0, 1, 5), 5);
        due("nothing happened", x.worth(1, 1, 6), 6);
    }

    private static void kept() {
        CHECKS.promise(30);
        WishWays x = withWishes(0);
        due("no wishes", x.kept(0), 0);
        due("nothing worth", x.kept(1), 0);
        x = withWishes(12);
        due("worth nothing: the fewest", x.kept(0), 0);
        for (int i = 0; i < 12; i++) {
            x.worth(0, i, 999);
        }
        due("all", x.kept(0), 4095);
        due("their worth", x.kept(1), 12 * 999);
        for (int i = 0; i < 12; i++) {
            x.needs(i, 3, 99);
            x.worth(0, i, 10);
        }
        due("no room", x.kept(0), 0);
        x.worth(1, 3, 2 * 99 - 1);
        due("room for one: the least number", x.kept(0), 1);
        x.worth(1, 3, 2 * 99);
        due("room for two", x.kept(0), 3);
        x.needs(11, 3, 0);
        due("and for one that needs none", x.kept(0), 2048 + 3);
        x.worth(0, 10, 20);
        due("worth more", x.kept(0), 2048 + 1024 + 1);
        due("together", x.kept(1), 40);
        x.worth(0, 10, 30);
        x.needs(10, 3, 99);
        x.needs(10, 5, 1);
        due("another box has no room", x.kept(0), 2048 + 3);
        x.worth(1, 5, 1);
        due("it has", x.kept(0), 2048 + 1024 + 1);
        x = withWishes(3);
        x.worth(0, 0, 5);
        x.worth(0, 1, 5);
        x.worth(0, 2, 10);
        x.needs(0, 0, 1);
        x.needs(1, 0, 1);
        x.needs(2, 0, 2);
        x.worth(1, 0, 2);
        due("of as much worth the fewest wishes", x.kept(0), 4);
        x = withWishes(4);
        for (int i = 0; i < 4; i++) {
            x.worth(0, i, 1 + i);
            x.needs(i, 7, 1);
            x.needs(i, i == 0 || i == 3 ? 1 : 2, 1);
            x.needs(i, 0, 1 + i);
        }
        x.worth(1, 7, 2);
        x.worth(1, 1, 2);
        x.worth(1, 2, 2);
        x.worth(1, 0, 5);
        due("of as many wishes the least number", x.kept(0), 6);
        due("worth", x.kept(1), 5);
        due("what 2", x.kept(2), -1);
        due("what -1", x.kept(-1), -1);
    }

    private static void counts() {
        CHECKS.promise(31);
        WishWays x = new WishWays();
        due("0 at first", x.counts(2, 5, false, 999999), 0);
        due("got is another", x.counts(2, 5, true, 7), 0);
        due("was", x.counts(2, 5, false, 8), 999999);
        due("was", x.counts(2, 5, true, 8), 7);
        due("the other way round is another line", x.counts(5, 2, false, 0), 0);
        due("1000000", x.counts(2, 5, false, 1000000), -1);
        due("-1", x.counts(2, 5, true, -1), -1);
        due("to itself", x.counts(3, 3, false, 1), -1);
        due("from 8", x.counts(8, 3, false, 1), -1);
        due("to 8", x.counts(3, 8, true, 1), -1);
        due("from -1", x.counts(-1, 3, false, 1), -1);
        due("to -1", x.counts(3, -1, true, 1), -1);
        due("nothing happened", x.counts(2, 5, false, 8), 8);
    }

    private static void liars() {
        CHECKS.promise(32);
        WishWays x = new WishWays();
        due("nobody", x.liars(), 0);
        x.counts(7, 3, true, 1);
        due("one of two, the least", x.liars(), 8);
        x.counts(7, 4, false, 1);
        due("the one of both lines", x.liars(), 128);
        x.counts(3, 4, false, 1);
        due("two of a ring of three", x.liars(), 8 + 16);
        x.counts(3, 4, true, 1);
        due("both say the same", x.liars(), 128);
        for (int from = 0; from < 8; from++) {
            for (int to = 0; to < from; to++) {
                x.counts(from, to, false, 5);
            }
        }
        due("all lines: all but one", x.liars(), 127);
    }

    private static void cables() {
        CHECKS.promise(35);
        WishWays x = new WishWays();
        due("to itself", x.cable(2, 2), -1);
        due("box 8", x.cable(8, 2), -1);
        due("box 8", x.cable(2, 8), -1);
        due("box -1", x.cable(-1, 2), -1);
        due("box -1", x.cable(2, -1), -1);
        for (int n = 0; n < 16; n++) {
            due("cable", x.cable(n % 2 * 7, 7 - n % 2 * 7), n);
        }
        due("a seventeenth", x.cable(0, 1), -1);
        due("cables", x.count(7), 16);
    }

    private static void edges() {
        CHECKS.promise(36);
        WishWays x = new WishWays();
        due("none at first", x.edges(255), 0);
        due("was", x.edges(3), 255);
        due("256", x.edges(256), -1);
        due("-1", x.edges(-1), -1);
        due("nothing happened", x.edges(0), 3);
    }

    /** A ring of three, a bridge behind it, and two cables between the same at its end. */
    private static void layRings(WishWays x) {
        x.cable(0, 1);
        x.cable(1, 2);
        x.cable(2, 0);
        x.cable(2, 3);
        x.cable(3, 4);
        x.cable(4, 3);
    }

    private static void known() {
        CHECKS.promise(37);
        WishWays x = new WishWays();
        due("no cables", x.known(0), 0);
        due("none is there", x.known(1), -1);
        layRings(x);
        due("only what lies on no ring", x.known(0), 8);
        due("two between the same", x.known(16), 8 + 16 + 32);
        due("a ring tapped", x.known(2), 8 + 7);
        x.edges(1 + 8);
        due("edges are one box", x.known(0), 0);
        due("a ring by 2 and the edges", x.known(1), 3);
        due("both rings tapped", x.known(4), 4);
        due("both rings tapped", x.known(5), 15);
        x.edges(1 + 2);
        due("between two edges: a ring by itself", x.known(2 + 16), 2 + 4 + 8 + 16 + 32);
        x.edges(4);
        due("one edge alone", x.known(0), 8);
        due("tapped", x.known(63), 63);
        due("not there", x.known(64), -1);
        due("-1", x.known(-1), -1);
    }

    private static void taps() {
        CHECKS.promise(38);
        WishWays x = new WishWays();
        due("no cables", x.taps(0), 0);
        due("none is there", x.taps(1), -1);
        layRings(x);
        due("none", x.taps(0), 0);
        due("a bridge", x.taps(8), 0);
        due("one of a ring, by the least of it", x.taps(4), 1);
        due("all of a ring", x.taps(7), 1);
        due("of two", x.taps(32), 16);
        due("one each", x.taps(63), 17);
        x.edges(8 + 1);
        due("cut off by the least", x.taps(2), 1);
        due("all", x.taps(63), 1 + 4 + 16);
        x.edges(1 + 2);
        due("between two edges", x.taps(1), 1);
        due("not by that", x.taps(6), 2);
        due("not there", x.taps(64), -1);
        due("-1", x.taps(-1), -1);
    }

    private static void counting() {
        CHECKS.promise(45);
        WishWays x = withWishes(3);
        x.row(0, 0, 0, 0, 0);
        x.row(0, 7, 0, 0, 0);
        x.row(1, 7, 0, 0, 0);
        x.row(1, 6, 0, 0, 0);
        x.row(1, 6, 0, 0, 0);
        x.row(1, 5, 0, 0, 0);
        x.line(0, 1, true);
        x.line(7, 6, true);
        x.line(1, 0, true);
        x.line(1, 0, false);
        x.feed(0, 0, 0, 0, 0);
        x.tell(0, false);
        for (int i = 0; i < 5; i++) {
            x.cable(0, 1);
        }
        int[] want = {3, 2, 4, 2, 20, 3, 1, 5};
        for (int what = 0; what < 8; what++) {
            due("count " + what, x.count(what), want[what]);
        }
        due("what 8", x.count(8), -1);
        due("what -1", x.count(-1), -1);
    }
}
