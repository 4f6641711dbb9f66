/** Promises 24 to 27 and 41 to 44: writing over, the worst falls, ticks, packets seen and the gap. */
public final class RolloutTest {
    private static final Checks CHECKS = new Checks();

    public static void main(String[] args) {
        writing();
        noOrder();
        order();
        falling();
        fallenLines();
        ticks();
        seeing();
        seeingLongWays();
        neither();
        gaps();
        gapsOfLater();
        CHECKS.finish("RolloutTest");
    }

    private static void due(String call, long got, long want) {
        CHECKS.due(call, got, want);
    }

    /** All packets go through these boxes and leave at the last one. */
    private static void chain(WishWays x, int version, int... boxes) {
        for (int i = 0; i < boxes.length; i++) {
            x.row(version, boxes[i], 0, 0, i + 1 < boxes.length ? boxes[i + 1] : 8);
        }
    }

    private static void dueOrder(WishWays x, int... boxes) {
        due("writes", x.writes(), boxes.length);
        for (int k = 0; k < boxes.length; k++) {
            due("written " + k, x.written(k), boxes[k]);
        }
        due("no more", x.written(boxes.length), -1);
    }

    private static void writing() {
        CHECKS.promise(24);
        WishWays x = new WishWays();
        due("nothing to write", x.writes(), 0);
        chain(x, 0, 0, 1, 2);
        chain(x, 1, 0, 4, 3, 2);
        x.entries(1);
        dueOrder(x, 3, 4, 0, 1);
        x.entries(0);
        dueOrder(x, 0, 1, 3, 4);
        x.entries(1);
        x.line(0, 4, true);
        due("now NEW ones are lost: any order", x.writes(), 4);
        due("the first by boxes", x.written(0), 0);
        due("the first by boxes", x.written(1), 1);
        x.line(0, 4, false);
        // Rows that do the same are unlike all the same.
        x.row(0, 2, 0, 0, 8);
        dueOrder(x, 2, 3, 4, 0, 1);
        due("nothing is written by that", x.count(5), 5);
        // Packet 0 alone is half old and half new.
        x = new WishWays();
        x.row(0, 0, Checks.match(0, 0, 0), 0, 2);
        x.row(1, 0, Checks.match(0, 0, 0), 0, 3);
        x.row(0, 2, 0, 0, 8);
        x.row(1, 2, 0, 0, 8);
        x.row(1, 3, 0, 0, 8);
        x.entries(1);
        dueOrder(x, 3, 0);
    }

    private static void noOrder() {
        CHECKS.promise(24);
        WishWays x = new WishWays();
        // Both boxes change what a packet ends as, so that it is half old and half new between the two writes.
        x.row(0, 0, 0, 0, 1);
        x.row(0, 1, 0, Checks.match(-1, 0, -1), 8);
        x.row(1, 0, 0, Checks.match(-1, -1, 1), 1);
        x.row(1, 1, 0, Checks.match(-1, 1, -1), 8);
        x.entries(1);
        due("no order", x.writes(), -2);
        due("none was found yet", x.written(0), -1);
        due("gap", x.gap(), -1);
        x.entries(2);
        due("one packet by the old, another by the new", x.writes(), 2);
        x.entries(1);
        due("no order", x.writes(), -2);
        due("the one found stays", x.written(1), 1);
    }

    private static void order() {
        CHECKS.promise(25);
        WishWays x = new WishWays();
        due("ahead of writes", x.written(0), -1);
        chain(x, 0, 0, 7);
        chain(x, 1, 0, 6);
        x.entries(1);
        dueOrder(x, 6, 0, 7);
        due("below", x.written(-1), -1);
        x.renew();
        due("it stays till the next", x.written(0), 6);
        due("nothing to write", x.writes(), 0);
        due("none", x.written(0), -1);
    }

    private static void falling() {
        CHECKS.promise(26);
        WishWays x = new WishWays();
        due("no lines", x.worst(1), -1);
        // c=0 by 1, c=1 by 2, b=3 by 3 from the rest; 1 and 2 go on to 4 and leave there.
        x.row(0, 0, Checks.match(-1, -1, 0), 0, 1);
        x.row(0, 0, Checks.match(-1, -1, 1), 0, 2);
        x.row(0, 0, Checks.match(-1, 3, -1), 0, 3);
        x.row(0, 1, 0, 0, 4);
        WishWays y = new WishWays();
        y.row(0, 3, 0, 0, 4);
        due("one line is there", y.worst(1), 0);
        due("not two", y.worst(2), -1);
        x.row(0, 2, 0, 0, 4);
        x.row(0, 3, 0, 0, 8);
        x.row(0, 4, Checks.match(0, -1, -1), 0, 4);
        x.row(0, 4, 0, 0, 8);
        x.entries(1);
        // By 0-1 and 1-4 as by 0-2 and 2-4 go 16 each, but 4 of them loop at 4; by 0-3 go 8.
        due("one line", x.worst(1), 12);
        CHECKS.promise(27);
        due("the least by number", x.falls(0), 1);
        due("one alone", x.falls(1), -1);
        CHECKS.promise(26);
        due("two lines", x.worst(2), 24);
        CHECKS.promise(27);
        due("the lesser first", x.falls(0), 1);
        due("the other", x.falls(1), 2);
        due("no third", x.falls(2), -1);
        due("below", x.falls(-1), -1);
        CHECKS.promise(26);
        for (int n : new int[] {0, 3, -1, 64}) {
            due("n " + n, x.worst(n), -1);
        }
        y = new WishWays();
        y.row(0, 1, 0, 0, 0);
        y.row(0, 0, 0, 0, 8);
        due("all 512 packets", y.worst(1), 64);
        y.entries(2);
        due("one of them ends as packet 0", y.worst(1), 64);
        for (int box = 2; box < 8; box++) {
            y.row(0, box, 0, 0, 8);
        }
        y.entries(255);
        due("all 512 packets end", y.worst(1), 64);
        CHECKS.promise(27);
        due("NONE changes nothing", x.falls(1), 2);
        due("ahead of worst", new WishWays().falls(0), -1);
    }

    private static void fallenLines() {
        CHECKS.promise(26);
        WishWays x = new WishWays();
        x.row(0, 0, 25, 0, 1);
        x.row(0, 0, 0, 0, 2);
        x.row(0, 1, 0, 0, 2);
        x.row(0, 2, 0, 0, 8);
        x.row(0, 7, 0, 0, 7);
        x.row(1, 7, 0, 0, 6);
        x.entries(3);
        due("lines", x.worst(1), 80);
        due("1-2: with all of box 1 and a=0 of box 0", x.falls(0), 10);
        x.line(1, 2, true);
        due("a fallen line counts no more", x.worst(1), 48);
        due("nor what is lost already", x.falls(0), 2);
        due("two", x.worst(2), 48);
        due("the least", x.falls(0), 1);
        due("the other", x.falls(1), 2);
        x.line(0, 1, true);
        due("not two are left", x.worst(2), -1);
        x.line(0, 2, true);
        due("not one is left, to itself and NEW rows are none", x.worst(1), -1);
        x.line(0, 2, false);
        x.row(0, 2, 0, 0, 3);
        x.erase(0, 0);
        x.entries(1);
        due("a row that is never come to has its line", x.worst(1), 0);
        due("that", x.falls(0), 19);
    }

    private static void ticks() {
        CHECKS.promise(41);
        WishWays x = new WishWays();
        due("never", x.write(7, 999), -1);
        due("was", x.write(7, 0), 999);
        due("was", x.write(7, -1), 0);
        due("never", x.write(7, 5), -1);
        due("tick 1000", x.write(7, 1000), -2);
        due("tick -2", x.write(7, -2), -2);
        due("box 8", x.write(8, 0), -2);
        due("box -1", x.write(-1, 0), -2);
        due("nothing happened", x.write(7, 5), 5);
    }

    private static void seeing() {
        CHECKS.promise(42);
        WishWays x = new WishWays();
        chain(x, 0, 0, 1);
        x.row(0, 1, 0, 0, 8);
        x.row(1, 1, 0, 1, 8);
        x.row(1, 0, 0, 0, 9);
        due("by the OLD ones", x.seen(3, 0), 67);
        x.write(1, 10);
        due("there in 9", x.seen(3, 8), 67);
        due("there in 10", x.seen(3, 9), 64);
        x.write(0, 20);
        due("comes in 19", x.seen(3, 19), 64);
        due("comes in 20", x.seen(3, 20), -2);
        x.write(0, 999);
        due("comes in 998", x.seen(3, 998), 64);
        due("comes in 999", x.seen(3, 999), -2);
        x.write(1, 999);
        x.write(0, -1);
        due("later ticks are as 999", x.seen(3, 999), 64);
        x.line(0, 1, true);
        due("a fallen line", x.seen(3, 9), -2);
        due("packet 512", x.seen(512, 0), -1);
        due("packet -1", x.seen(-1, 0), -1);
        due("tick 1000", x.seen(0, 1000), -1);
        due("tick -1", x.seen(0, -1), -1);
        x.row(0, 5, 0, 0, 5);
        x.row(1, 5, 0, 0, 8);
        due("for ever", x.seen(320, 0), -3);
        x.write(5, 50);
        due("comes again as it was, and leaves in the end", x.seen(320, 0), 320);
        x.write(5, 99);
        due("at its 100th place", x.seen(320, 0), 320);
        x.write(5, 100);
        due("went 100 steps", x.seen(320, 0), -3);
        due("a tick later it would not", x.seen(320, 1), 320);
    }

    private static void seeingLongWays() {
        CHECKS.promise(42);
        WishWays x = new WishWays();
        TableTest.countThroughAll(x, 0);
        due("100 places", x.seen(412, 0), 448);
        due("101 places", x.seen(411, 0), -3);
        due("though it ends", x.ends(411, 0), 448);
        CHECKS.promise(43);
        x.entries(128 + 64);
        due("so it is neither", x.neither(0, -1), 412 - 384);
        due("the last one", x.neither(0, 27), 411);
        due("no more", x.neither(0, 28), -1);
    }

    private static void neither() {
        CHECKS.promise(43);
        WishWays x = new WishWays();
        chain(x, 0, 0, 1);
        chain(x, 1, 0, 2);
        x.entries(3);
        due("never written", x.neither(7, -1), 0);
        x.write(0, 5);
        x.write(2, 6);
        due("comes to 2 in 6", x.neither(5, -1), 0);
        x.write(2, 7);
        due("comes to 2 in 6", x.neither(5, -1), 64);
        due("the first", x.neither(5, 0), 0);
        due("the last", x.neither(5, 63), 63);
        due("no more", x.neither(5, 64), -1);
        due("k -2", x.neither(5, -2), -1);
        due("a tick earlier", x.neither(4, -1), 0);
        due("a tick later", x.neither(6, -1), 0);
        x.write(2, -1);
        due("lost in tick 999 too: as it will be", x.neither(5, -1), 0);
        x.write(2, 999);
        due("as in tick 999, not as by all NEW ones", x.neither(5, -1), 64);
        due("box 1 is never written", x.neither(997, -1), 64);
        due("in time", x.neither(998, -1), 0);
        x.write(1, 5);
        due("comes from 0 in 4, is lost in 1", x.neither(4, -1), 64);
        due("at 1 itself it is as by NEW ones", x.neither(5, -1), 64);
        WishWays y = new WishWays();
        chain(y, 0, 0, 1);
        chain(y, 1, 0, 2);
        y.row(1, 1, 0, Checks.match(3, -1, -1), 2);
        y.write(1, 4);
        y.write(2, 5);
        y.entries(1);
        due("box 0 stays old in tick 999", y.neither(3, -1), 0);
        due("lost in no tick", y.neither(4, -1), 0);
        y.write(2, 6);
        due("lost at 2 in tick 5", y.neither(3, -1), 64);
        due("tick 1000", x.neither(1000, -1), -1);
        due("tick -1", x.neither(-1, -1), -1);
    }

    private static void gaps() {
        CHECKS.promise(44);
        WishWays x = new WishWays();
        due("ahead of writes", x.gap(), -1);
        due("writes", x.writes(), 0);
        due("it told 0", x.gap(), -1);
        // The OLD way 0 4 3 2 1 is cleared in the order 1 2 3 4, against those that still go it.
        chain(x, 0, 0, 4, 3, 2, 1);
        chain(x, 1, 0, 5);
        x.entries(1);
        due("writes", x.writes(), 6);
        int[] order = {5, 0, 1, 2, 3, 4};
        for (int k = 0; k < 6; k++) {
            due("written", x.written(k), order[k]);
        }
        // Who leaves 0 a tick ahead of its write is at 1 three ticks behind it.
        due("gap", x.gap(), 4);
        x.write(1, 0);
        x.write(0, 0);
        due("ticks count nothing", x.gap(), 4);
        x.entries(0);
        due("nobody comes", x.gap(), 1);
        x.entries(1);
        x.row(1, 5, 0, 0, 8);
        x.erase(1, 5);
        due("tables as they are now: lost is as at last", x.gap(), 1);
        x.renew();
        due("writes", x.writes(), 0);
        due("it told 0", x.gap(), -1);
    }

    /** A packet that is on its old way stays at box 7 for some steps; then it comes to box 1. */
    private static WishWays slowWay(int... first) {
        WishWays x = new WishWays();
        chain(x, 0, first);
        x.erase(0, first[first.length - 1]);
        x.row(0, first[first.length - 1], 0, 0, 7);
        for (int version = 0; version < 2; version++) {
            for (int c = 0; c < 3; c++) {
                x.row(version, 7, Checks.match(-1, -1, c), Checks.match(-1, -1, c + 1), 7);
            }
            x.row(version, 7, Checks.match(-1, 0, 3), Checks.match(-1, 1, 0), 7);
            x.row(version, 7, 0, 0, 1);
        }
        x.row(0, 1, 0, 0, 8);
        chain(x, 1, 0, 2);
        for (int k = 1; k < first.length; k++) {
            x.row(1, first[k], 0, 0, k + 1 < first.length ? first[k + 1] : 7);
        }
        x.entries(1);
        return x;
    }

    private static int roundGap(int fields, int entries) {
        WishWays x = new WishWays();
        TableTest.countThroughAll(x, 0);
        TableTest.countThroughAll(x, 1);
        for (int version = 0; version < 2; version++) {
            // The last row of box 6 goes on with these fields at box 7, box 5 begins at 6 with the least.
            for (int box = 0; box < 6; box++) {
                x.erase(version, box);
            }
            int[][] rows = new int[9][3];
            for (int k = 0; k < 9; k++) {
                for (int what = 0; what < 3; what++) {
                    rows[k][what] = x.rows(version, 6, k, what);
                }
            }
            x.erase(version, 6);
            for (int[] row : rows) {
                x.row(version, 6, row[0], row[1], row[2]);
            }
            x.row(version, 6, 124, Checks.match(fields / 16, fields / 4 % 4, fields % 4), 7);
        }
        x.row(0, 5, 0, Checks.match(0, 0, 0), 6);
        x.row(1, 5, 0, 0, 8);
        x.row(1, 0, 0, 0, 8);
        x.entries(entries);
        dueOrder(x, 0, 5);
        return x.gap();
    }

    private static void gapsOfLater() {
        CHECKS.promise(44);
        // Written are 2 in 0, 0 in g and 1 in 2 * g; the last one that goes the old way is at 1 in g + 8.
        WishWays x = slowWay(0);
        dueOrder(x, 2, 0, 1);
        due("the widest gap", x.gap(), 9);
        // With a box more on that way it comes there in g + 9.
        x = slowWay(0, 5);
        dueOrder(x, 2, 0, 1);
        due("none is wide enough", x.gap(), -2);
        x.line(0, 5, true);
        due("lost is as lost by all OLD ones: any gap", x.gap(), 1);
        x.line(0, 5, false);
        // Ways of more than 100 steps are seen as a loop: no gap helps.
        x = new WishWays();
        TableTest.countThroughAll(x, 0);
        TableTest.countThroughAll(x, 1);
        x.row(1, 7, 0, 0, 9);
        dueOrder(x, 7);
        due("seen as a loop", x.gap(), -2);
        x.entries(128);
        due("short ways", x.gap(), 1);
        // Box 5 sends packets round 6 and 7, NEW no more; box 0 is written ahead of it and has nothing to do with it.
        due("100 places", roundGap(29, 32), 1);
        due("101 places", roundGap(28, 32), -2);
        due("64 and 36 places, not written", roundGap(28, 64), 1);
        due("64 and 37 places, not written", roundGap(27, 64), -2);
        // Box 0 is not in the order: it stays old.
        x = new WishWays();
        chain(x, 0, 0, 1);
        chain(x, 1, 0, 2);
        x.erase(1, 0);
        x.row(1, 0, 0, 0, 1);
        x.row(1, 1, 0, 0, 8);
        dueOrder(x, 2);
        x.erase(1, 0);
        x.erase(1, 1);
        x.row(1, 2, 0, 0, 8);
        due("by tables as they are, box 0 old", x.gap(), 1);
    }
}
