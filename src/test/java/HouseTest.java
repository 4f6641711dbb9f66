/** Promises 9 to 13: rights of houses, quarrels, ranks and wishes joined. */
public final class HouseTest {
    private static final Checks CHECKS = new Checks();

    public static void main(String[] args) {
        rights();
        breaking();
        quarrels();
        ranks();
        joining();
        CHECKS.finish("HouseTest");
    }

    private static void due(String call, long got, long want) {
        CHECKS.due(call, got, want);
    }

    private static void rights() {
        CHECKS.promise(9);
        WishWays x = new WishWays();
        CHECKS.due("all", x.right(3, 255, 15, 15, 15), true);
        CHECKS.due("none", x.right(0, 0, 0, 0, 0), true);
        int[][] wrong = {{4, 1, 1, 1, 1}, {-1, 1, 1, 1, 1}, {1, 256, 1, 1, 1}, {1, -1, 1, 1, 1}, {1, 1, 16, 1, 1},
            {1, 1, -1, 1, 1}, {1, 1, 1, 16, 1}, {1, 1, 1, -1, 1}, {1, 1, 1, 1, 16}, {1, 1, 1, 1, -1}};
        Checks.wish(x, 1, "1");
        for (int[] w : wrong) {
            CHECKS.due("wrong", x.right(w[0], w[1], w[2], w[3], w[4]), false);
            due("nothing happened", x.breaks(0), -1);
        }
    }

    private static void breaking() {
        CHECKS.promise(10);
        WishWays x = new WishWays();
        Checks.wish(x, 2, "at=3;a=2;b=1;c=3;at:0");
        int p = 64 * 3 + 32 + 4 + 3;
        due("all is right at first", x.breaks(0), -1);
        x.right(2, 1 << 3, 1 << 2, 1 << 1, 1 << 3);
        due("just so", x.breaks(0), -1);
        x.right(2, 255 - (1 << 3), 15, 15, 15);
        due("not the place", x.breaks(0), p);
        x.right(2, 255, 15 - (1 << 2), 15, 15);
        due("not a", x.breaks(0), p);
        x.right(2, 255, 15, 15 - (1 << 1), 15);
        due("not b", x.breaks(0), p);
        x.right(2, 255, 15, 15, 15 - (1 << 3));
        due("not c", x.breaks(0), p);
        x.right(1, 0, 0, 0, 0);
        x.right(2, 255, 15, 15, 15);
        due("another house's right", x.breaks(0), -1);
        Checks.wish(x, 1, "!a=0");
        due("the least", x.breaks(1), 16);
        Checks.wish(x, 1, "0");
        due("none made of any", x.breaks(2), -1);
        Checks.wish(x, 1, "at=0;a=0;b=0;c=0");
        due("packet 0", x.breaks(3), 0);
        due("wish 4", x.breaks(4), -2);
        due("wish -1", x.breaks(-1), -2);
    }

    private static void quarrels() {
        CHECKS.promise(11);
        WishWays x = new WishWays();
        Checks.wish(x, 0, "a=1;b:1+a=2");
        Checks.wish(x, 1, "a=3;b:1+a=2;b:0");
        Checks.wish(x, 1, "a=0+a=3");
        due("the least of which both make some", x.quarrel(0, 1), 32 + 4);
        due("either way round", x.quarrel(1, 0), 36);
        due("none of which both make some", x.quarrel(0, 2), -1);
        due("both make some", x.quarrel(1, 2), 48);
        due("itself", x.quarrel(1, 1), -1);
        Checks.wish(x, 1, "at=0;a=0;b=0;c=0;a:1");
        due("packet 0", x.quarrel(2, 3), 0);
        due("wish 4", x.quarrel(0, 4), -2);
        due("wish -1", x.quarrel(-1, 0), -2);
    }

    private static void ranks() {
        CHECKS.promise(12);
        WishWays x = new WishWays();
        due("0 at first", x.rank(3, 9), 0);
        due("as told last", x.rank(3, 1), 9);
        due("above", x.rank(3, 10), -1);
        due("below", x.rank(3, -1), -1);
        due("house 4", x.rank(4, 0), -1);
        due("house -1", x.rank(-1, 0), -1);
        due("nothing happened", x.rank(3, 0), 1);
    }

    private static void joining() {
        CHECKS.promise(13);
        WishWays x = new WishWays();
        for (int what = 0; what < 3; what++) {
            due("no wishes", x.joined(0, what), what == 1 ? 0 : -1);
        }
        Checks.wish(x, 0, "a=0;b:3");
        Checks.wish(x, 1, "b:1+b:2");
        Checks.wish(x, 0, "a=1;c:1");
        due("of one rank by numbers", x.joined(0, 0), 0);
        due("how many", x.joined(0, 1), 1);
        due("the least", x.joined(0, 2), 12);
        due("the first one makes none", x.joined(16, 0), 1);
        due("how many", x.joined(16, 1), 2);
        due("the least", x.joined(16, 2), 20);
        x.rank(0, 1);
        due("the greater rank first", x.joined(16, 0), 2);
        due("of one rank by numbers", x.joined(0, 0), 0);
        due("the others behind", x.joined(32, 0), 1);
        x.rank(1, 2);
        due("the greater rank first", x.joined(0, 0), 1);
        due("what 3", x.joined(0, 3), -1);
        due("what -1", x.joined(0, -1), -1);
        due("packet 512", x.joined(512, 0), -1);
        due("packet -1", x.joined(-1, 1), -1);
    }
}
