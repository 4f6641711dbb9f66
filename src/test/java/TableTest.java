/** Promises 14 to 23, 39 and 40: tables, lines, ways, tables held against wishes, packed and made. */
public final class TableTest {
    private static final Checks CHECKS = new Checks();

    public static void main(String[] args) {
        rows();
        erasing();
        renewing();
        lines();
        entries();
        ending();
        ways();
        showing();
        guessing();
        packing();
        making();
        makingTooMany();
        reading();
        CHECKS.finish("TableTest");
    }

    private static void due(String call, long got, long want) {
        CHECKS.due(call, got, want);
    }

    private static void rows() {
        CHECKS.promise(14);
        WishWays x = new WishWays();
        int[][] wrong = {{2, 0, 0, 0, 0}, {-1, 0, 0, 0, 0}, {0, 8, 0, 0, 0}, {0, -1, 0, 0, 0}, {0, 0, 125, 0, 0},
            {0, 0, -1, 0, 0}, {0, 0, 0, 125, 0}, {0, 0, 0, -1, 0}, {0, 0, 0, 0, 10}, {0, 0, 0, 0, -1}};
        for (int[] w : wrong) {
            due("wrong", x.row(w[0], w[1], w[2], w[3], w[4]), -1);
        }
        due("no rows", x.count(1) + x.count(2), 0);
        for (int n = 0; n < 12; n++) {
            due("row", x.row(1, 7, 124, 124, 9), n);
        }
        due("a thirteenth", x.row(1, 7, 0, 0, 0), -1);
        due("another table", x.row(0, 7, 0, 0, 0), 0);
        due("OLD rows", x.count(1), 1);
        due("NEW rows", x.count(2), 12);
    }

    private static void erasing() {
        CHECKS.promise(15);
        WishWays x = new WishWays();
        x.row(0, 3, 0, 0, 8);
        x.row(0, 3, 0, 0, 9);
        x.row(1, 3, 0, 0, 8);
        due("erase", x.erase(0, 3), 2);
        due("it is empty", x.erase(0, 3), 0);
        due("and deals with nothing", x.ends(192, 0), -2);
        due("the NEW one stays", x.ends(192, 255), 192);
        due("a row is the first again", x.row(0, 3, 0, 0, 8), 0);
        due("box 8", x.erase(0, 8), -1);
        due("box -1", x.erase(0, -1), -1);
        due("version 2", x.erase(2, 0), -1);
        due("version -1", x.erase(-1, 0), -1);
    }

    private static void renewing() {
        CHECKS.promise(16);
        WishWays x = new WishWays();
        x.row(0, 0, 0, 0, 8);
        x.row(1, 0, 0, 0, 8);
        x.row(0, 1, 0, 0, 8);
        x.row(1, 2, 50, 3, 8);
        x.row(0, 3, 0, 0, 1);
        x.row(1, 3, 0, 0, 2);
        due("unlike", x.count(5), 3);
        due("renew", x.renew(), 3);
        due("all alike", x.renew(), 0);
        due("box 1 is empty", x.erase(0, 1), 0);
        due("box 2 is as new", x.rows(0, 2, 0, 0), 50);
        due("and deals so", x.ends(128 + 16, 0), 128 + 16 + 2);
        due("box 3", x.rows(0, 3, 0, 2), 2);
        x.row(1, 2, 0, 0, 9);
        due("a NEW row comes behind NEW ones alone", x.count(1), 3);
    }

    private static void lines() {
        CHECKS.promise(17);
        WishWays x = new WishWays();
        x.row(0, 2, 0, 0, 5);
        x.row(0, 5, 0, 0, 8);
        CHECKS.due("mended already", x.line(2, 5, false), false);
        CHECKS.due("falls", x.line(2, 5, true), true);
        CHECKS.due("has fallen already", x.line(2, 5, true), false);
        due("lost", x.ends(128, 0), -2);
        due("count", x.count(3), 1);
        CHECKS.due("the other way", x.line(5, 2, true), true);
        CHECKS.due("mended", x.line(2, 5, false), true);
        due("goes by it again", x.ends(128, 0), 320);
        due("count", x.count(3), 1);
        CHECKS.due("the greatest", x.line(7, 6, true), true);
        CHECKS.due("to itself", x.line(3, 3, true), false);
        CHECKS.due("from 8", x.line(8, 0, true), false);
        CHECKS.due("to 8", x.line(0, 8, true), false);
        CHECKS.due("from -1", x.line(-1, 0, true), false);
        CHECKS.due("to -1", x.line(0, -1, true), false);
        due("count", x.count(3), 2);
    }

    private static void entries() {
        CHECKS.promise(18);
        WishWays x = new WishWays();
        Checks.wish(x, 0, "at=2");
        due("all at first", x.entries(4), 255);
        due("only PACKETS there come", x.shown(0, 0), 128);
        due("256", x.entries(256), -1);
        due("-1", x.entries(-1), -1);
        due("none", x.entries(0), 4);
        due("nothing comes", x.shown(0, 0), -1);
        due("as told last", x.entries(255), 0);
    }

    private static void ending() {
        CHECKS.promise(19);
        WishWays x = new WishWays();
        x.row(0, 0, Checks.match(1, -1, -1), Checks.match(-1, 2, -1), 3);
        x.row(0, 0, Checks.match(-1, -1, 2), Checks.match(3, 0, 1), 8);
        x.row(0, 0, Checks.match(0, 0, 0), 0, 0);
        x.row(0, 0, Checks.match(0, 1, -1), Checks.match(0, 0, 0), 0);
        x.row(0, 0, Checks.match(0, 2, -1), Checks.match(-1, 1, -1), 0);
        x.row(0, 0, Checks.match(2, -1, -1), 124, 9);
        x.row(0, 3, 0, Checks.match(-1, -1, 3), 8);
        due("on, and ends elsewhere", x.ends(16 + 2, 0), 192 + 16 + 8 + 3);
        due("ends here, changed", x.ends(2, 0), 48 + 1);
        due("to itself for ever", x.ends(0, 0), -3);
        due("by itself into a loop", x.ends(9, 0), -3);
        due("to 9", x.ends(32, 0), -2);
        due("without a row", x.ends(48, 0), -2);
        due("the first row counts", x.ends(32 + 2, 0), 49);
        x.row(1, 3, 0, 0, 0);
        due("NEW there", x.ends(16, 8), -3);
        due("NEW elsewhere", x.ends(16, 247), -2);
        due("OLD", x.ends(16, 0), 192 + 16 + 8 + 3);
        x.row(0, 6, 0, 0, 0);
        x.line(6, 0, true);
        due("a fallen line to place 0", x.ends(384, 0), -2);
        due("packet 512", x.ends(512, 0), -1);
        due("packet -1", x.ends(-1, 0), -1);
        due("boxes 256", x.ends(0, 256), -1);
        due("boxes -1", x.ends(0, -1), -1);
    }

    /** Counts c, b and a up in each of the boxes, one step each: a way through all 512 packets. */
    static void countThroughAll(WishWays x, int version) {
        for (int box = 0; box < 8; box++) {
            for (int v = 0; v < 3; v++) {
                x.row(version, box, Checks.match(-1, -1, v), Checks.match(-1, -1, v + 1), box);
            }
            for (int v = 0; v < 3; v++) {
                x.row(version, box, Checks.match(-1, v, 3), Checks.match(-1, v + 1, 0), box);
            }
            for (int v = 0; v < 3; v++) {
                x.row(version, box, Checks.match(v, 3, 3), Checks.match(v + 1, 0, 0), box);
            }
            x.row(version, box, 124, Checks.match(0, 0, 0), box + 1);
        }
    }

    private static void ways() {
        CHECKS.promise(20);
        WishWays x = new WishWays();
        due("ahead of ends", x.way(0), -1);
        countThroughAll(x, 0);
        due("through all", x.ends(0, 0), 448);
        due("first", x.way(0), 0);
        due("the fourth", x.way(3), 3);
        due("the 64th", x.way(63), 9);
        due("the 65th", x.way(64), 16);
        due("the last", x.way(511), 16 * 7 + 9);
        due("behind", x.way(512), -1);
        due("ahead", x.way(-1), -1);
        x.erase(0, 2);
        due("the way stays as it was gone", x.way(128), 32);
        due("not so far", x.ends(127, 0), -2);
        due("a row", x.way(0), 16 + 9);
        due("without one", x.way(1), -2);
        due("no more", x.way(2), -1);
        due("NONE changes nothing", x.ends(0, 256), -1);
        due("a row", x.way(0), 25);
        x.row(1, 2, 0, 0, 2);
        due("a loop", x.ends(128, 4), -3);
        due("by its row once", x.way(0), 32);
        due("no more", x.way(1), -1);
        x.line(1, 2, true);
        due("a fallen line", x.ends(127, 4), -2);
        due("its row is on the way", x.way(0), 25);
        due("no more", x.way(1), -1);
    }

    private static void showing() {
        CHECKS.promise(21);
        WishWays x = new WishWays();
        x.row(0, 0, Checks.match(1, -1, -1), Checks.match(-1, 3, -1), 1);
        x.row(0, 0, Checks.match(2, -1, -1), 0, 0);
        x.row(0, 1, 0, 0, 8);
        x.row(1, 1, 0, 0, 9);
        x.entries(1);
        Checks.wish(x, 0, "at=0;a=1;b:3;at:1");
        Checks.wish(x, 0, "at=0;(a=1;b:3;at:1+a=2)");
        Checks.wish(x, 0, "at=0;a=1;(b:3;at:1+1)");
        Checks.wish(x, 0, "a=1;b:3;at:1");
        due("just what it ends as", x.shown(0, 0), -1);
        due("none for a loop", x.shown(1, 0), 32);
        due("not one more", x.shown(2, 0), 16);
        due("what is not at an entry counts nothing", x.shown(3, 0), -1);
        due("NEW", x.shown(0, 2), 16);
        due("NEW elsewhere", x.shown(0, 252), -1);
        x.line(0, 1, true);
        due("none for a lost one", x.shown(0, 0), 16);
        WishWays y = new WishWays();
        Checks.wish(y, 0, "at=0;a=0;b=0;c=0");
        Checks.wish(y, 0, "at:7;a:0;b:0;c:0");
        due("packet 0", y.shown(0, 0), 0);
        countThroughAll(y, 0);
        due("by the longest way", y.shown(1, 0), -1);
        due("wish 4", x.shown(4, 0), -2);
        due("wish -1", x.shown(-1, 0), -2);
        due("boxes 256", x.shown(0, 256), -2);
        due("boxes -1", x.shown(0, -1), -2);
    }

    private static void guessing() {
        CHECKS.promise(22);
        WishWays x = new WishWays();
        due("no wishes", x.guessed(0), 0);
        Checks.wish(x, 0, "0");
        Checks.wish(x, 0, "1");
        Checks.wish(x, 0, "a=1;a=2");
        due("all are lost", x.guessed(0), 5);
        for (int box = 0; box < 8; box++) {
            x.row(1, box, 0, 0, 8);
        }
        due("NEW", x.guessed(255), 2);
        due("some NEW", x.guessed(254), 0);
        due("boxes 256", x.guessed(256), -1);
        due("boxes -1", x.guessed(-1), -1);
    }

    private static void packing() {
        CHECKS.promise(23);
        WishWays x = new WishWays();
        due("no rows", x.packed(0, 0), 0);
        x.row(0, 0, 25, 0, 9);
        x.row(0, 0, 0, 31, 9);
        due("lost is as without a row", x.packed(0, 0), 0);
        x.row(0, 0, 0, 0, 8);
        due("a hidden row", x.packed(0, 0), 0);
        x.row(1, 0, 25, 0, 3);
        x.row(1, 0, 50, 0, 3);
        x.row(1, 0, 75, 0, 3);
        x.row(1, 0, 100, 0, 3);
        x.row(1, 0, 0, 0, 3);
        due("the last one does for all", x.packed(1, 0), 16);
        x.row(1, 1, 25, 25, 3);
        x.row(1, 1, 0, 0, 3);
        due("what is set to what it is", x.packed(1, 1), 2);
        x.row(1, 2, 25, 0, 9);
        x.row(1, 2, 0, 0, 8);
        due("a row that guards", x.packed(1, 2), 3);
        x.row(1, 3, 25, 0, 8);
        x.row(1, 3, 25, 0, 8);
        due("the least number", x.packed(1, 3), 1);
        x.row(1, 4, 25, 0, 4);
        x.row(1, 4, 0, 0, 8);
        due("to its own place is not to leave", x.packed(1, 4), 3);
        for (int i = 0; i < 12; i++) {
            x.row(0, 7, Checks.match(i / 4, i % 4, -1), 0, i % 8);
        }
        due("none can be missed", x.packed(0, 7), 4095);
        x.row(0, 6, Checks.match(0, 0, 0), 0, 5);
        due("a row for one packet", x.packed(0, 6), 1);
        x.row(0, 6, 0, 0, 8);
        due("it guards that", x.packed(0, 6), 3);
        x.row(0, 5, Checks.match(0, 0, 0), 0, 9);
        x.row(0, 5, Checks.match(0, 0, -1), 0, 8);
        due("lost, ahead of another", x.packed(0, 5), 3);
        due("the table stays", x.count(2), 13);
        due("box 8", x.packed(0, 8), -1);
        due("version 2", x.packed(2, 0), -1);
        due("version -1", x.packed(-1, 0), -1);
    }

    private static void dueRow(WishWays x, int version, int box, int k, int... row) {
        for (int what = 0; what < 3; what++) {
            due("row " + k + ", " + what, x.rows(version, box, k, what), row[what]);
        }
    }

    private static void making() {
        CHECKS.promise(39);
        WishWays x = new WishWays();
        Checks.wish(x, 0, "at=2;(a=0;b:1;at:5+a=1;c:0+a=2;b=2;c=2;a:0)");
        x.row(1, 2, 3, 3, 3);
        due("made", x.make(0, 1, 2), 10);
        dueRow(x, 1, 2, 0, 25, Checks.match(-1, 1, -1), 5);
        dueRow(x, 1, 2, 1, 50, Checks.match(-1, -1, 0), 8);
        dueRow(x, 1, 2, 2, 100, 0, 9);
        dueRow(x, 1, 2, 3, Checks.match(2, -1, 0), 0, 9);
        dueRow(x, 1, 2, 4, Checks.match(2, -1, 1), 0, 9);
        dueRow(x, 1, 2, 5, Checks.match(2, -1, 3), 0, 9);
        dueRow(x, 1, 2, 6, Checks.match(2, 0, -1), 0, 9);
        dueRow(x, 1, 2, 7, Checks.match(2, 1, -1), 0, 9);
        dueRow(x, 1, 2, 8, Checks.match(2, 3, -1), 0, 9);
        dueRow(x, 1, 2, 9, Checks.match(2, 2, 2), Checks.match(0, -1, -1), 8);
        Checks.wish(x, 0, "a=0;at:7");
        due("none of some and place 7 of others", x.make(1, 0, 0), 4);
        dueRow(x, 0, 0, 0, 25, 0, 7);
        Checks.wish(x, 0, "a=0;at:7+a=1;at:6+a=2;at:7+a=3;at:7");
        due("places unlike", x.make(2, 0, 0), 4);
        dueRow(x, 0, 0, 1, 50, 0, 6);
        Checks.wish(x, 0, "!a=0;!c=2");
        due("of as many by numbers", x.make(3, 0, 0), 11);
        dueRow(x, 0, 0, 0, 3, 0, 9);
        dueRow(x, 0, 0, 1, 25, 0, 9);
        dueRow(x, 0, 0, 2, Checks.match(1, -1, 0), 0, 8);
        dueRow(x, 0, 0, 10, Checks.match(3, -1, 3), 0, 8);
    }

    private static void makingTooMany() {
        CHECKS.promise(39);
        WishWays x = new WishWays();
        Checks.wish(x, 0, "1");
        Checks.wish(x, 0, "at:3;a:2");
        Checks.wish(x, 0, "at=1+at=0;a=0;b=0;c=0;b:1+at=0;!c=0");
        due("one row", x.make(0, 0, 3), 1);
        dueRow(x, 0, 3, 0, 0, 0, 8);
        due("to the own place", x.make(1, 0, 3), 1);
        dueRow(x, 0, 3, 0, 0, Checks.match(2, -1, -1), 8);
        due("to another place", x.make(1, 0, 4), 1);
        dueRow(x, 0, 4, 0, 0, Checks.match(2, -1, -1), 3);
        due("at another place it makes none", x.make(2, 0, 7), 1);
        dueRow(x, 0, 7, 0, 0, 0, 9);
        due("as it is, if both are so", x.make(2, 0, 0), 10);
        dueRow(x, 0, 0, 0, 2, 0, 8);
        dueRow(x, 0, 0, 9, Checks.match(0, 0, 0), Checks.match(-1, 1, -1), 8);
        due("it deals as the wish", x.entries(1), 255);
        due("shown", x.shown(2, 0), -1);
        Checks.wish(x, 0, "at=5;c=3;b=3;a=3;(1+a:0)+(a=0;b:0+a=1;b:1+a=2;b:2+a=3;!b=3;b:3);(c=0;c:1+c=1;c:2+c=2;c:3+c=3;!a=3;c:0)");
        due("several, ahead of too many", x.make(3, 0, 5), -3);
        due("nothing happened", x.count(1), 1 + 1 + 1 + 10);
        Checks.wish(x, 0, "(a=0;b:0+a=1;b:1+a=2;b:2+a=3;b:3);(c=0;c:1+c=1;c:2+c=2;c:3+c=3;c:0)");
        due("sixteen are too many", x.make(4, 0, 0), -2);
        due("nothing happened", x.rows(0, 0, 9, 0), 31);
        due("wish 5", x.make(5, 0, 0), -1);
        due("wish -1", x.make(-1, 0, 0), -1);
        due("version 2", x.make(0, 2, 0), -1);
        due("version -1", x.make(0, -1, 0), -1);
        due("box 8", x.make(0, 0, 8), -1);
        due("box -1", x.make(0, 0, -1), -1);
    }

    private static void reading() {
        CHECKS.promise(40);
        WishWays x = new WishWays();
        x.row(1, 6, 124, 31, 9);
        x.row(1, 6, 5, 0, 0);
        dueRow(x, 1, 6, 0, 124, 31, 9);
        dueRow(x, 1, 6, 1, 5, 0, 0);
        due("row 2", x.rows(1, 6, 2, 0), -1);
        due("row -1", x.rows(1, 6, -1, 0), -1);
        due("what 3", x.rows(1, 6, 0, 3), -1);
        due("what -1", x.rows(1, 6, 0, -1), -1);
        due("the OLD table", x.rows(0, 6, 0, 0), -1);
        due("box 8", x.rows(1, 8, 0, 0), -1);
        due("version 2", x.rows(2, 6, 0, 0), -1);
    }
}
