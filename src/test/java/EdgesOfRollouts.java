/** Parts IV (writes, worst) and IX of the terms, promises 24 to 27 and 41 to 44: writing over, and lines that fall. */
final class EdgesOfRollouts extends Edges {
    EdgesOfRollouts(Checks checks, Doc doc) {
        super(checks, doc);
    }

    @Override
    void all() {
        writing();
        writingTerms();
        order();
        falling();
        fallingTerms();
        fallen();
        ticks();
        seeing();
        steps();
        neither();
        neitherTerms();
        gaps();
        gapTerms();
        widestGap();
    }

    /** All packets go through these boxes and leave at the last one. */
    private static void chain(WishWays x, int version, int... boxes) {
        for (int i = 0; i < boxes.length; i++) {
            x.row(version, boxes[i], 0, 0, i + 1 < boxes.length ? boxes[i + 1] : 8);
        }
    }

    private static String orderOf(WishWays x) {
        StringBuilder s = new StringBuilder();
        for (int k = 0; x.written(k) != NONE; k++) {
            s.append(x.written(k));
        }
        return s.toString();
    }

    /** Both boxes change what comes by them, so that a packet between two writes is half old and half new. */
    private static WishWays torn() {
        WishWays x = new WishWays();
        x.row(0, 0, 0, 0, 1);
        x.row(0, 1, 0, match(ANY, 0, ANY), 8);
        x.row(1, 0, 0, match(ANY, ANY, 1), 1);
        x.row(1, 1, 0, match(ANY, 1, ANY), 8);
        return x;
    }

    // ---- promises 24 and 25

    private void writing() {
        says(24, "WRITES: how many");
        WishWays x = new WishWays();
        due("all tables empty", x.writes(), 0);
        chain(x, 0, 7, 0);
        due("OLD rows alone", x.writes(), 2);
        chain(x, 1, 7, 0);
        due("all alike", x.writes(), 0);
        WishWays all = new WishWays();
        for (int box = 0; box < 8; box++) {
            all.row(1, box, 0, 0, 8);
        }
        due("all eight", all.writes(), 8);
        due("by boxes", orderOf(all), "01234567");
        due("each packet is in one box alone: any gap", all.gap(), 1);
        due("nothing is written by that", all.count(1), 0);
        says(24, "-2: no order is so.");
        WishWays y = torn();
        due("no order", y.writes(), -2);
        y.entries(1);
        due("no order", y.writes(), -2);
        y.entries(2);
        due("each by the old or by the new", y.writes(), 2);
        y.entries(0);
        due("nobody comes", y.writes(), 2);
    }

    private void writingTerms() {
        term("WRITES: BOXES whose OLD and NEW ROWS are unlike, one behind the other, OLD to NEW");
        WishWays x = new WishWays();
        for (int box = 0; box < 8; box++) {
            x.row(0, box, 0, 0, 8);
            x.row(1, box, 0, box == 3 ? 1 : 0, 8);
        }
        x.row(1, 6, 0, 0, 8);
        due("one is unlike, one has a row more that nothing comes to", x.writes(), 2);
        due("these", orderOf(x), "36");
        term("an order so that behind each write (and ahead of the first) each PACKET at an ENTRY ENDS (or is LOST, or in a LOOP) as by all OLD or as by all NEW TABLES, LINES as they are");
        x = new WishWays();
        chain(x, 0, 0, 1, 2);
        chain(x, 1, 0, 4, 3, 2);
        x.entries(1);
        due("the new way first, then the turn, then the old way", x.writes(), 4);
        due("so", orderOf(x), "3401");
        x.entries(0);
        due("nobody comes", x.writes(), 4);
        due("any order", orderOf(x), "0134");
        x.entries(1);
        x.line(4, 3, true);
        due("new ones are lost: a packet may be lost at any time", x.writes(), 4);
        due("so", orderOf(x), "0134");
        x.line(4, 3, false);
        x.line(1, 2, true);
        due("old ones are lost", x.writes(), 4);
        due("so", orderOf(x), "0134");
        WishWays loop = new WishWays();
        chain(loop, 0, 0, 1);
        loop.row(1, 0, 0, 0, 1);
        loop.row(1, 1, 0, 0, 0);
        loop.row(1, 2, 0, 0, 8);
        loop.row(0, 3, 0, 0, 0);
        loop.row(1, 3, 0, 0, 2);
        loop.entries(8);
        due("3 goes by 0 1, or to 2: not into the loop, not lost", loop.writes(), 3);
        due("so", orderOf(loop), "231");
        lostIsNoLoop();
        term(": the first by BOXES.");
        x.entries(0);
        x.writes();
        due("of all orders", orderOf(x), "0134");
        WishWays trap = trap();
        due("three", trap.writes(), 3);
        due("0 first is safe, but neither 1 nor 2 can follow", orderOf(trap), "120");
        WishWays one = new WishWays();
        one.row(0, 0, match(0, 0, 0), 0, 2);
        one.row(1, 0, match(0, 0, 0), 0, 3);
        one.row(0, 2, match(0, 0, 0), 0, 8);
        one.row(1, 3, match(0, 0, 0), 0, 8);
        one.entries(1);
        due("one packet alone", one.writes(), 3);
        due("so", orderOf(one), "302");
    }

    private void lostIsNoLoop() {
        WishWays lost = new WishWays();
        lost.row(0, 1, 0, 0, 0);
        lost.row(1, 1, 0, 0, 8);
        lost.row(1, 0, 0, 0, 1);
        lost.entries(2);
        due("lost, then it ends", lost.writes(), 2);
        due("with 0 written first it would be in a loop", orderOf(lost), "10");
        WishWays looped = new WishWays();
        looped.row(0, 1, 0, 0, 0);
        looped.row(0, 0, 0, 0, 1);
        looped.row(1, 1, 0, 0, 8);
        looped.entries(2);
        due("in a loop, then it ends", looped.writes(), 2);
        due("with 0 written first it would be lost", orderOf(looped), "10");
    }

    /** A packet goes through 0, 1 and 2 and ends with a = 0, but not if 0 and just one of 1 and 2 are written. */
    private static WishWays trap() {
        WishWays x = new WishWays();
        x.row(0, 0, 0, match(0, ANY, ANY), 1);
        x.row(1, 0, 0, match(1, ANY, ANY), 1);
        x.row(0, 1, match(1, ANY, 1), match(2, ANY, ANY), 2);
        x.row(1, 1, match(1, ANY, 0), match(2, ANY, ANY), 2);
        x.row(0, 2, match(2, ANY, 0), match(3, ANY, ANY), 8);
        x.row(1, 2, match(2, ANY, 1), match(3, ANY, ANY), 8);
        for (int version = 0; version < 2; version++) {
            x.row(version, 1, 0, 0, 2);
            x.row(version, 2, 0, match(0, ANY, ANY), 8);
        }
        x.entries(1);
        return x;
    }

    private void order() {
        says(25, "The k-th BOX of the order found by the latest writes() that told a number");
        WishWays x = new WishWays();
        chain(x, 0, 0, 7);
        chain(x, 1, 0, 6);
        x.entries(1);
        x.writes();
        due("the first", x.written(0), 6);
        due("the second", x.written(1), 0);
        due("the third", x.written(2), 7);
        x.renew();
        due("it stays", orderOf(x), "607");
        WishWays y = torn();
        y.entries(2);
        due("found", y.writes(), 2);
        y.entries(1);
        due("not found", y.writes(), -2);
        due("the latest that told a number", orderOf(y), "01");
        due("nothing to write tells 0", x.writes(), 0);
        due("no box then", orderOf(x), "");
        says(25, "NONE.");
        due("ahead of any", new WishWays().written(0), NONE);
        due("told 0", x.written(0), NONE);
        refused("k", 0, 1, NONE, y::written);
        WishWays never = torn();
        never.writes();
        due("never found", never.written(0), NONE);
    }

    // ---- promises 26 and 27

    /** c = 0 by 1, c = 1 by 2, both on to 4; c = 2 to 3; from 0 alone. */
    private static WishWays fork() {
        WishWays x = new WishWays();
        x.row(0, 0, match(ANY, ANY, 0), 0, 1);
        x.row(0, 0, match(ANY, ANY, 1), 0, 2);
        x.row(0, 0, match(0, ANY, 2), 0, 3);
        x.row(0, 1, 0, 0, 4);
        x.row(0, 2, 0, 0, 4);
        x.row(0, 3, 0, 0, 8);
        x.row(0, 4, 0, 0, 8);
        x.entries(1);
        return x;
    }

    private void falling() {
        says(26, "WORST of n LINES: how many PACKETS");
        WishWays x = fork();
        due("one", x.worst(1), 16);
        due("two", x.worst(2), 32);
        WishWays all = new WishWays();
        for (int box = 0; box < 8; box++) {
            all.row(0, box, 0, 0, box < 7 ? box + 1 : 8);
        }
        due("all that come by the last line", all.worst(1), 448);
        due("7 to 8 is no line", all.falls(0), 8 * 6 + 7);
        due("by two no more", all.worst(2), 448);
        due("so the least is the other", all.falls(0), 1);
        for (int from = 0; from < 8; from++) {
            for (int to = 0; to < 8; to++) {
                if (from != to) {
                    dueLine(from, to);
                }
            }
        }
        says(26, "NONE without these (fewer such LINES, too).");
        refused("n", 1, 2, NONE, x::worst);
        due("no rows", new WishWays().worst(1), NONE);
        WishWays y = new WishWays();
        y.row(0, 7, 0, 0, 0);
        due("one line", y.worst(1), 0);
        due("not two", y.worst(2), NONE);
        y.row(0, 7, 0, 0, 0);
        due("by two rows it is one line still", y.worst(2), NONE);
        y.row(0, 0, 0, 0, 7);
        due("the other way is another line", y.worst(2), 0);
        y.line(7, 0, true);
        due("a fallen one is none", y.worst(2), NONE);
        y.line(0, 7, true);
        due("none is left", y.worst(1), NONE);
    }

    private void dueLine(int from, int to) {
        WishWays x = new WishWays();
        x.row(0, from, 0, match(0, 0, 0), to);
        x.row(0, to, 0, 0, 8);
        x.entries(1 << from);
        due("all by one line, to the first packet there", x.worst(1), 64);
        due("that line", x.falls(0), 8 * from + to);
    }

    private void fallingTerms() {
        term("WORST, of n LINES (1 or 2, of those that have not FALLEN and that some OLD ROW goes by, to another place)");
        WishWays x = new WishWays();
        x.row(0, 3, 0, 0, 3);
        x.row(0, 3, 0, 0, 8);
        x.row(0, 3, 0, 0, 9);
        x.row(1, 3, 0, 0, 4);
        due("to itself, leaving, lost, NEW", x.worst(1), NONE);
        x.row(0, 3, 0, 0, 5);
        due("a row that no packet comes to goes by it, too", x.worst(1), 0);
        due("that line", x.falls(0), 8 * 3 + 5);
        x.line(3, 5, true);
        due("it has fallen", x.worst(1), NONE);
        term(": those by whose FALL most PACKETS at ENTRIES do not END that END now by OLD TABLES (elsewhere or otherwise counts as ENDING)");
        WishWays y = fork();
        y.entries(1 + 2);
        due("16 by 0-1, and the 64 of box 1 by 1-4", y.worst(1), 80);
        due("1-4", y.falls(0), 12);
        y.entries(1 + 2 + 4);
        due("both, with those that come by 0", y.worst(2), 160);
        due("1-4", y.falls(0), 12);
        due("2-4", y.falls(1), 20);
        y.entries(2);
        due("not those that do not come", y.worst(1), 64);
        y.entries(1);
        y.line(1, 4, true);
        due("not those that do not end now", y.worst(1), 16);
        due("0-2", y.falls(0), 2);
        y.line(1, 4, false);
        y.erase(0, 4);
        due("only c = 2 ends now", y.worst(1), 4);
        due("0-3", y.falls(0), 3);
        y.row(1, 4, 0, 0, 8);
        due("by OLD tables", y.worst(1), 4);
        WishWays z = new WishWays();
        z.row(0, 0, 0, 0, 1);
        z.row(0, 1, 0, 0, 2);
        z.row(0, 2, 0, 0, 1);
        due("in a loop none ends now", z.worst(1), 0);
        WishWays twice = new WishWays();
        twice.row(0, 0, 0, 0, 1);
        twice.row(0, 1, match(ANY, ANY, 0), match(ANY, ANY, 1), 0);
        twice.row(0, 1, 0, 0, 8);
        twice.entries(1);
        due("twice by one line is once lost", twice.worst(1), 64);
        due("and with the line back as well", twice.worst(2), 64);
        due("the lesser", twice.falls(0), 1);
        due("the other, though nobody is lost by it alone", twice.falls(1), 8);
        term("; of several the least by numbers (8 * from + to, the lesser first).");
        due("the least", z.falls(0), 1);
        WishWays f = fork();
        f.worst(1);
        due("0-1, not 0-2, 1-4 or 2-4", f.falls(0), 1);
        f.worst(2);
        due("the lesser", f.falls(0), 1);
        due("0-2, not 2-4", f.falls(1), 2);
        f.entries(4);
        due("all by 2-4 alone", f.worst(2), 64);
        due("the lesser is any", f.falls(0), 1);
        due("2-4", f.falls(1), 20);
    }

    private void fallen() {
        says(27, "The k-th LINE of the latest worst() that told a number");
        WishWays x = fork();
        x.worst(2);
        due("first", x.falls(0), 1);
        due("second", x.falls(1), 2);
        due("NONE", x.worst(3), NONE);
        due("it stays", x.falls(1), 2);
        x.erase(0, 0);
        x.erase(0, 1);
        x.erase(0, 2);
        due("no line", x.worst(1), NONE);
        due("it stays", x.falls(0), 1);
        due("both of it", x.falls(1), 2);
        WishWays y = new WishWays();
        y.row(0, 7, 0, 0, 6);
        due("0 is a number", y.worst(1), 0);
        due("the greatest line", y.falls(0), 62);
        says(27, "NONE.");
        due("ahead of any", new WishWays().falls(0), NONE);
        refused("k", 0, 1, NONE, x::falls);
        refused("k", 0, 0, NONE, y::falls);
        WishWays z = fork();
        z.worst(2);
        z.worst(1);
        due("one has no second", z.falls(1), NONE);
    }

    // ---- promises 41 to 43

    private void ticks() {
        says(41, "A BOX is WRITTEN in a TICK (NONE: never): what it was (NONE)");
        WishWays x = new WishWays();
        for (int box = 0; box < 8; box++) {
            due("never at first", x.write(box, 0), NONE);
            due("0", x.write(box, 999), 0);
            due("999", x.write(box, NONE), 999);
            due("never again", x.write(box, 100 + box), NONE);
        }
        says(41, "-2, and nothing happens, for others.");
        refused("box", 0, 7, -2, box -> x.write(box, 5));
        refused("tick", -1, 999, -2, tick -> x.write(7, tick));
        for (int box = 0; box < 8; box++) {
            due("nothing happened", x.write(box, 1), 100 + box);
        }
        term("TICKS: a BOX is WRITTEN in a TICK (0 to 999; none at first: never): from that TICK on its NEW TABLE is in use.");
        WishWays y = new WishWays();
        y.row(0, 7, 0, 0, 8);
        y.row(1, 7, 0, match(3, ANY, ANY), 8);
        due("never at first", y.seen(448, 999), 448);
        y.write(7, 0);
        due("from 0 on", y.seen(448, 0), 496);
        y.write(7, 999);
        due("not yet", y.seen(448, 998), 448);
        due("in 999", y.seen(448, 999), 496);
        y.write(7, 500);
        due("not yet", y.seen(448, 499), 448);
        due("from 500 on", y.seen(448, 500), 496);
        due("and ever", y.seen(448, 999), 496);
        y.write(7, NONE);
        due("never", y.seen(448, 999), 448);
        due("ends() knows no ticks", y.ends(448, 0), 448);
    }

    private void seeing() {
        WishWays x = new WishWays();
        chain(x, 0, 0, 1, 2);
        x.row(1, 2, 0, match(ANY, ANY, 3), 8);
        x.row(1, 1, 0, 0, 9);
        x.row(0, 3, 0, 0, 3);
        x.write(2, 10);
        term("A PACKET that comes in a TICK t is at its first place in t, at the next one in t + 1, and so on (999 and later TICKS as 999)");
        due("at 2 in 9", x.seen(0, 7), 128);
        due("at 2 in 10", x.seen(0, 8), 131);
        due("comes to 2 in 9", x.seen(128, 9), 128);
        due("comes to 2 in 10", x.seen(128, 10), 131);
        x.write(2, 999);
        due("at 2 in 998", x.seen(0, 996), 128);
        due("at 2 in 999", x.seen(0, 997), 131);
        due("at 2 later", x.seen(0, 998), 131);
        due("at 2 later still", x.seen(0, 999), 131);
        term("SEEN as it is then, by the TABLES in use.");
        due("OLD tables", x.seen(0, 0), 128);
        x.write(1, 0);
        due("NEW at 1", x.seen(0, 0), -2);
        x.write(1, NONE);
        x.line(1, 2, true);
        due("lines as they are", x.seen(0, 0), -2);
        x.line(1, 2, false);
        says(42, "What a PACKET that comes in a TICK is SEEN to end as");
        due("packet 0 in 0", x.seen(0, 0), 128);
        due("packet 63 in 999", x.seen(63, 999), 191);
        due("a packet that is at its last place", x.seen(191, 0), 191);
        says(42, "-2: LOST, -3: a LOOP");
        due("without a row", x.seen(511, 0), -2);
        due("for ever", x.seen(192, 0), -3);
        says(42, "NONE without these.");
        refused("packet", 0, 511, NONE, p -> x.seen(p, 0));
        refused("tick", 0, 999, NONE, tick -> x.seen(0, tick));
    }

    private void steps() {
        term("; one that went 100 steps is in a LOOP.");
        WishWays x = new WishWays();
        TableTest.countThroughAll(x, 0);
        due("99 steps, then it leaves", x.seen(412, 0), 448);
        due("100 steps", x.seen(411, 0), -3);
        due("101 steps", x.seen(410, 0), -3);
        due("511 steps", x.seen(0, 0), -3);
        due("it ends all the same", x.ends(411, 0), 448);
        WishWays y = new WishWays();
        y.row(0, 5, 0, 0, 5);
        y.row(1, 5, 0, 0, 8);
        y.write(5, 99);
        due("as it was before, but no loop: 99 steps", y.seen(320, 0), 320);
        y.write(5, 100);
        due("100 steps", y.seen(320, 0), -3);
        due("99 steps", y.seen(320, 1), 320);
        y.write(5, 999);
        due("99 steps to 999", y.seen(320, 900), 320);
        due("100 steps to 999", y.seen(320, 899), -3);
    }

    private void neither() {
        WishWays x = new WishWays();
        chain(x, 0, 0, 1);
        chain(x, 1, 0, 2);
        x.entries(1);
        x.write(0, 5);
        x.write(2, 9);
        says(43, "NEITHER: how many PACKETS that come in a TICK (k NONE)");
        due("by OLD", x.neither(4, NONE), 0);
        for (int tick = 5; tick < 8; tick++) {
            due("at 2 ahead of its write", x.neither(tick, NONE), 64);
        }
        due("at 2 in 9", x.neither(8, NONE), 0);
        due("tick 0", x.neither(0, NONE), 0);
        due("tick 999", x.neither(999, NONE), 0);
        says(43, "or the k-th, rising");
        for (int k = 0; k < 64; k++) {
            due("the k-th", x.neither(5, k), k);
        }
        x.entries(128 + 1);
        due("packets of the greatest place", x.neither(5, NONE), 64);
        says(43, "NONE without these.");
        refused("k", -1, 63, NONE, k -> x.neither(5, k));
        refused("k of none", -1, -1, NONE, k -> x.neither(4, k));
        refused("tick", 0, 999, NONE, tick -> x.neither(tick, NONE));
        refused("tick", 0, 999, NONE, tick -> x.neither(tick, 0));
    }

    private void neitherTerms() {
        term("NEITHER: PACKETS at ENTRIES that are seen to end otherwise than they END (III) by all OLD TABLES and than they END by all TABLES as they are in TICK 999.");
        WishWays x = new WishWays();
        chain(x, 0, 0, 1);
        chain(x, 1, 0, 2);
        x.entries(1);
        x.write(0, 5);
        due("lost, but in 999 it will be so, too", x.neither(5, NONE), 0);
        x.write(2, 999);
        due("lost, and in 999 it will not", x.neither(5, NONE), 64);
        due("at 2 in 999", x.neither(998, NONE), 0);
        x.entries(254);
        due("not at entries", x.neither(5, NONE), 0);
        // By all NEW tables a packet at 3 would end with c = 1, but box 3 is never written.
        WishWays y = new WishWays();
        y.row(0, 3, 0, 0, 4);
        y.row(1, 3, 0, match(ANY, ANY, 1), 4);
        y.row(0, 4, 0, 0, 8);
        y.row(1, 4, 0, match(ANY, 1, ANY), 8);
        y.entries(8);
        y.write(4, 7);
        due("as in 999, box 3 old", y.neither(6, NONE), 0);
        y.write(3, 9);
        due("in 999 both are written: b = 1 alone is neither, unless c = 1 already", y.neither(6, NONE), 36);
        WishWays first = new WishWays();
        chain(first, 0, 0, 1);
        first.row(1, 0, 0, 0, 8);
        first.row(1, 1, 0, match(ANY, ANY, 1), 8);
        first.entries(1);
        first.write(1, 7);
        due("as in 999, box 0 old", first.neither(6, NONE), 0);
        neitherInLoops();
        // END (III) knows no bound of steps.
        WishWays z = new WishWays();
        TableTest.countThroughAll(z, 0);
        z.entries(64);
        due("seen in a loop, but it ends", z.neither(0, NONE), 28);
        due("the least", z.neither(0, 0), 384);
        due("the greatest", z.neither(0, 27), 411);
    }

    private void neitherInLoops() {
        WishWays x = new WishWays();
        x.row(0, 3, 0, 0, 3);
        x.entries(8);
        due("in a loop, as by all OLD", x.neither(0, NONE), 0);
        x.row(1, 3, 0, 0, 8);
        x.write(3, 200);
        due("in a loop, as by all OLD", x.neither(100, NONE), 0);
        due("ends, as in 999", x.neither(101, NONE), 0);
        WishWays y = new WishWays();
        y.row(0, 3, 0, 0, 8);
        y.row(1, 3, 0, 0, 3);
        y.entries(8);
        y.write(3, 5);
        due("ends, as by all OLD", y.neither(4, NONE), 0);
        due("in a loop, as in 999", y.neither(5, NONE), 0);
        // OLD it is lost at 4; in 999 it ends at 3; between them 3 and 4 send it to and fro.
        WishWays z = new WishWays();
        z.row(0, 3, 0, 0, 4);
        z.row(1, 3, 0, 0, 8);
        z.row(1, 4, 0, 0, 3);
        z.entries(8);
        z.write(4, 0);
        z.write(3, 900);
        due("in a loop, but lost by all OLD", z.neither(0, NONE), 64);
        z.write(4, NONE);
        due("lost, as by all OLD", z.neither(0, NONE), 0);
    }

    // ---- promise 44

    private void gaps() {
        says(44, "GAP");
        WishWays x = new WishWays();
        chain(x, 0, 0, 4, 3, 2, 1);
        chain(x, 1, 0, 5);
        x.entries(1);
        due("writes", x.writes(), 6);
        due("order", orderOf(x), "501234");
        // Who leaves 0 in the tick ahead of its write is at 1 three ticks behind that, at 2 two ticks behind.
        due("four", x.gap(), 4);
        says(44, "-2: none");
        WishWays far = new WishWays();
        TableTest.countThroughAll(far, 0);
        TableTest.countThroughAll(far, 1);
        far.row(1, 0, 0, 0, 9);
        due("writes", far.writes(), 1);
        due("seen in a loop with any", far.gap(), -2);
        says(44, "NONE ahead of any such writes(), or if it told 0.");
        due("ahead of any", new WishWays().gap(), NONE);
        WishWays y = torn();
        y.entries(1);
        y.writes();
        due("-2 is no number", y.gap(), NONE);
        y.entries(2);
        y.writes();
        due("two are", y.gap(), 1);
        y.entries(1);
        y.writes();
        due("the order of before: no packet is between two writes a tick apart", y.gap(), 1);
        WishWays z = new WishWays();
        due("it told 0", z.writes(), 0);
        due("it told 0", z.gap(), NONE);
        x.renew();
        due("it stays ahead of the next, and all is new now", x.gap(), 1);
        due("now it tells 0", x.writes(), 0);
        due("it told 0", x.gap(), NONE);
    }

    private void gapTerms() {
        term("GAP: if the BOXES of the order found by the latest writes() that told a number are WRITTEN in TICKS 0, g, 2 * g, .. : the least g (1 to 9) with which no PACKET at an ENTRY that comes in a TICK from 0 to g times their number is seen as NEITHER");
        // The old way from 0 lies through 2 .. boxes to 1; then 0 turns to the new way and 1 is cleared behind it.
        due("at 1 a tick behind the turn", turned(1), 1);
        due("two ticks", turned(2), 2);
        due("five ticks", turned(5), 5);
        WishWays one = new WishWays();
        one.row(1, 6, 0, 0, 8);
        one.writes();
        due("a single box", one.gap(), 1);
        one.entries(0);
        due("nobody comes", one.gap(), 1);
        WishWays late = new WishWays();
        chain(late, 0, 0, 1);
        chain(late, 1, 0, 2);
        late.entries(1);
        late.writes();
        late.erase(1, 2);
        late.row(1, 2, 0, 0, 3);
        late.row(1, 3, 0, 0, 8);
        due("box 3 is not of the order, and stays old: lost is as it will be", late.gap(), 1);
        late.row(0, 3, 0, match(ANY, ANY, 3), 8);
        due("by its old rows it ends", late.gap(), 1);
        gapsByTablesOfNow();
        gapsInLoops();
        gapsForOne();
        gapsOfLongWays();
        term("; what is told of TICKS counts nothing there.");
        WishWays x = new WishWays();
        chain(x, 0, 0, 1);
        chain(x, 1, 0, 2);
        x.entries(1);
        x.writes();
        for (int box = 0; box < 8; box++) {
            x.write(box, box == 0 ? 0 : 900);
        }
        due("though now all is torn", x.neither(0, NONE), 64);
        due("gap", x.gap(), 1);
        due("and it writes nothing", x.write(0, 0), 0);
        due("and it writes nothing", x.write(2, 0), 900);
    }

    private void gapsByTablesOfNow() {
        WishWays x = new WishWays();
        chain(x, 0, 0, 1);
        chain(x, 1, 0, 2);
        x.entries(1);
        x.writes();
        x.erase(0, 1);
        x.row(0, 1, 0, match(ANY, ANY, 3), 8);
        due("OLD rows that were told behind writes()", x.gap(), 1);
        x.erase(1, 2);
        x.row(1, 2, 0, match(3, ANY, ANY), 8);
        due("NEW rows that were told behind writes()", x.gap(), 1);
        // Box 0 is not of the order: its NEW rows count nothing.
        WishWays y = new WishWays();
        chain(y, 0, 0, 1);
        y.row(1, 0, 0, 0, 1);
        y.row(1, 1, 0, match(3, ANY, ANY), 8);
        y.entries(1);
        due("box 1 alone", y.writes(), 1);
        y.erase(1, 0);
        y.row(1, 0, 0, 0, 8);
        due("box 0 stays old", y.gap(), 1);
        for (int other : new int[] {0, 7}) {
            WishWays z = new WishWays();
            chain(z, 0, other, 1);
            chain(z, 1, other, 1, 2);
            z.entries(1 << other);
            due("boxes 1 and 2", z.writes(), 2);
            due("so", orderOf(z), "21");
            z.erase(1, other);
            z.row(1, other, 0, 0, 8);
            due("box " + other + " stays old", z.gap(), 1);
        }
    }

    private void gapsInLoops() {
        WishWays x = new WishWays();
        x.row(0, 1, 0, 0, 8);
        x.row(1, 1, 0, 0, 1);
        x.entries(2);
        due("into a loop", x.writes(), 1);
        due("in a loop, as it is in 999", x.gap(), 1);
        WishWays y = new WishWays();
        y.row(0, 1, 0, 0, 1);
        y.row(1, 1, 0, 0, 8);
        y.entries(2);
        due("out of a loop", y.writes(), 1);
        due("ends, as it does in 999", y.gap(), 1);
    }

    private void gapsForOne() {
        for (int told : new int[] {match(0, 0, 0), match(3, 3, 3), match(1, ANY, 2)}) {
            due("for these packets alone, two ticks", turned(2, told), 2);
            due("for these packets alone, four ticks", turned(4, told), 4);
        }
    }

    /**
     * Box 5 sends all to 6, and they go through 64 places there and, from these fields on, through the rest of those
     * of 7. NEW it lets them leave; 0 is written ahead of it and has nothing to do with them.
     */
    private static int longWay(int fields, int entries) {
        WishWays x = new WishWays();
        for (int version = 0; version < 2; version++) {
            TableTest.countThroughAll(x, version);
            for (int box = 0; box < 6; box++) {
                x.erase(version, box);
            }
            WishWays rows = new WishWays();
            TableTest.countThroughAll(rows, 0);
            x.erase(version, 6);
            for (int k = 0; k < 9; k++) {
                x.row(version, 6, rows.rows(0, 6, k, 0), rows.rows(0, 6, k, 1), 6);
            }
            x.row(version, 6, 124, match(fields / 16, fields / 4 % 4, fields % 4), 7);
        }
        x.row(0, 5, 0, match(0, 0, 0), 6);
        x.row(1, 5, 0, 0, 8);
        x.row(1, 0, 0, 0, 8);
        x.entries(entries);
        return x.writes() == 2 && orderOf(x).equals("05") ? x.gap() : -100;
    }

    private void gapsOfLongWays() {
        due("99 steps, ahead of the last write", longWay(29, 32), 1);
        due("100 steps", longWay(28, 32), -2);
        due("101 steps", longWay(27, 32), -2);
        due("99 steps, with all written", longWay(28, 64), 1);
        due("100 steps", longWay(27, 64), -2);
        due("101 steps", longWay(26, 64), -2);
    }

    private static int turned(int between) {
        return turned(between, 0);
    }

    /**
     * An old way for packets of this match through so many boxes behind 0, the last of which is cleared behind the
     * turn of 0.
     */
    private static int turned(int between, int told) {
        WishWays x = new WishWays();
        int at = 0;
        for (int i = 1; i < between; i++) {
            x.row(0, at, told, 0, 2 + i);
            at = 2 + i;
            x.row(1, at, told, 0, i + 1 < between ? 3 + i : 1);
        }
        x.row(0, at, told, 0, 1);
        x.row(0, 1, told, 0, 8);
        x.row(1, 0, told, 0, 2);
        x.row(1, 2, told, 0, 8);
        x.entries(1);
        return x.writes() == 3 && orderOf(x).equals("201") ? x.gap() : -100;
    }

    /** An old way that stays at box 7 for so many steps, then comes to 1, which is cleared behind the turn of 0. */
    private static int delayed(int steps) {
        WishWays x = new WishWays();
        x.row(0, 0, 0, match(0, 0, 0), 7);
        for (int version = 0; version < 2; version++) {
            for (int n = 1; n < steps; n++) {
                x.row(version, 7, match(0, (n - 1) / 4, (n - 1) % 4), match(0, n / 4, n % 4), 7);
            }
            x.row(version, 7, match(0, (steps - 1) / 4, (steps - 1) % 4), 0, 1);
        }
        x.row(0, 1, 0, 0, 8);
        x.row(1, 0, 0, 0, 2);
        x.row(1, 2, 0, 0, 8);
        x.entries(1);
        return x.writes() == 3 && orderOf(x).equals("201") ? x.gap() : -100;
    }

    private void widestGap() {
        term("the least g (1 to 9)");
        for (int steps = 1; steps <= 8; steps++) {
            due("at 7 for " + steps + " steps", delayed(steps), steps + 1);
        }
        due("ten would do, but nine is the widest", delayed(9), -2);
        due("eleven would", delayed(10), -2);
    }
}
