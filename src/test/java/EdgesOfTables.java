/** Parts III, IV (shown, guessed, packed) and VIII of the terms, promises 14 to 23, 39 and 40: tables and ways. */
final class EdgesOfTables extends Edges {
    EdgesOfTables(Checks checks, Doc doc) {
        super(checks, doc);
    }

    @Override
    void all() {
        rows();
        matches();
        erasing();
        renewing();
        lines();
        entries();
        ending();
        walking();
        loops();
        ways();
        showing();
        guessing();
        packing();
        packingTerms();
        making();
        makingTerms();
        makingOrder();
        reading();
    }

    // ---- promises 14 to 18

    private void rows() {
        says(14, "A ROW (version 0, 1) behind all of that TABLE: its number");
        WishWays x = new WishWays();
        for (int n = 0; n < 12; n++) {
            due("OLD", x.row(0, 7, n, 124 - n, n % 10), n);
            due("NEW", x.row(1, 0, 124 - n, n, 9 - n % 10), n);
        }
        for (int n = 0; n < 12; n++) {
            due("as told", x.rows(0, 7, n, 0), n);
            due("as told", x.rows(1, 0, n, 1), n);
        }
        due("the greatest", new WishWays().row(1, 7, 124, 124, 9), 0);
        due("the least", new WishWays().row(0, 0, 0, 0, 0), 0);
        says(14, "NONE: there are 12, or something is not as told.");
        due("there are 12", x.row(0, 7, 0, 0, 8), NONE);
        due("there are 12", x.row(1, 0, 0, 0, 8), NONE);
        due("there are 12 still", x.count(1), 12);
        due("and no thirteenth", x.rows(0, 7, 12, 0), NONE);
        due("another table has room", x.row(1, 7, 0, 0, 8), 0);
        WishWays y = new WishWays();
        refused("version", 0, 1, NONE, n -> y.row(n, 0, 0, 0, 0));
        refused("box", 0, 7, NONE, n -> y.row(0, n, 0, 0, 0));
        refused("match", 0, 124, NONE, n -> y.row(0, 0, n, 0, 0));
        refused("sets", 0, 124, NONE, n -> y.row(0, 0, 0, n, 0));
        refused("to", 0, 9, NONE, n -> y.row(0, 0, 0, 0, n));
        due("no OLD rows", y.count(1), 0);
        due("no NEW rows", y.count(2), 0);
        term("TABLES, OLD (0) and NEW (1), of a BOX at each place: ROWS, 12 at most.");
        WishWays z = new WishWays();
        for (int version = 0; version < 2; version++) {
            for (int box = 0; box < 8; box++) {
                for (int n = 0; n < 12; n++) {
                    due("row", z.row(version, box, 0, 0, 8), n);
                }
                due("a thirteenth", z.row(version, box, 0, 0, 8), NONE);
            }
        }
        due("96", z.count(1), 96);
        due("96", z.count(2), 96);
    }

    /** Whether a number's part is 0 or 1 + the value. */
    private static boolean fits(int told, int value) {
        return told == 0 || told == 1 + value;
    }

    private void matches() {
        term("A ROW MATCHES a PACKET by what it tells of its fields, SETS fields, and goes TO: a place 0 to 7, 8 (the PACKET leaves here), 9 (it is lost).");
        for (int to = 0; to <= 9; to++) {
            WishWays x = new WishWays();
            x.row(1, 3, 0, match(ANY, 2, ANY), to);
            for (int box = 0; box < 8; box++) {
                x.row(0, box, 0, match(ANY, ANY, 1), 8);
            }
            int want = to == 8 ? packet(3, 0, 2, 0) : to == 9 ? -2 : to == 3 ? -3 : packet(to, 0, 2, 1);
            due("to " + to, x.ends(192, 8), want);
        }
        term("MATCH and SETS are told as numbers 25 * A + 5 * B + C, A, B, C 0 (any; as it is) or 1 + the value (1 to 4).");
        for (int a = 0; a <= 4; a++) {
            for (int b = 0; b <= 4; b++) {
                for (int c = 0; c <= 4; c++) {
                    matchesOf(a, b, c);
                }
            }
        }
    }

    private void matchesOf(int a, int b, int c) {
        WishWays matching = new WishWays();
        WishWays setting = new WishWays();
        int told = 25 * a + 5 * b + c;
        matching.row(0, 6, told, 0, 8);
        setting.row(0, 6, 0, told, 8);
        for (int p = 0; p < 64; p++) {
            int[] v = {p / 16, p / 4 % 4, p % 4};
            boolean fits = fits(a, v[0]) && fits(b, v[1]) && fits(c, v[2]);
            due("match " + told + " of " + p, matching.ends(384 + p, 0), fits ? 384 + p : -2);
            int set = packet(6, a == 0 ? v[0] : a - 1, b == 0 ? v[1] : b - 1, c == 0 ? v[2] : c - 1);
            due("sets " + told + " of " + p, setting.ends(384 + p, 0), set);
        }
    }

    private void erasing() {
        says(15, "A TABLE is empty: how many ROWS it had");
        WishWays x = new WishWays();
        due("an empty one", x.erase(1, 7), 0);
        for (int n = 0; n < 12; n++) {
            x.row(0, 7, 0, 0, 8);
            x.row(1, 7, 0, 0, 8);
            x.row(0, 6, 0, 0, 8);
        }
        due("a full one", x.erase(0, 7), 12);
        due("it is empty", x.erase(0, 7), 0);
        due("it deals with none", x.ends(448, 0), -2);
        due("the NEW one is not", x.ends(448, 255), 448);
        due("another box is not", x.ends(384, 0), 384);
        due("it has room again", x.row(0, 7, 31, 0, 8), 0);
        due("and none of the rows of before", x.ends(449, 0), -2);
        says(15, "NONE without these.");
        refused("version", 0, 1, NONE, n -> x.erase(n, 7));
        refused("box", 0, 7, NONE, n -> x.erase(0, n));
        due("nothing happened", x.count(1), 13);
        due("nothing happened", x.count(2), 12);
    }

    private void renewing() {
        says(16, "All OLD TABLES become as the NEW ones: how many were unlike.");
        WishWays x = new WishWays();
        due("all empty", x.renew(), 0);
        for (int box = 0; box < 8; box++) {
            x.row(1, box, box, 2 * box, box);
            x.row(1, box, 124 - box, 0, 9);
        }
        due("all", x.renew(), 8);
        for (int box = 0; box < 8; box++) {
            due("match", x.rows(0, box, 0, 0), box);
            due("sets", x.rows(0, box, 0, 1), 2 * box);
            due("to", x.rows(0, box, 0, 2), box);
            due("the second row", x.rows(0, box, 1, 0), 124 - box);
            due("the NEW one stays", x.rows(1, box, 1, 2), 9);
        }
        due("all alike now", x.renew(), 0);
        x.erase(1, 0);
        x.row(1, 1, 0, 0, 8);
        x.row(0, 2, 0, 0, 8);
        x.row(0, 3, 0, 0, 8);
        x.row(1, 3, 0, 0, 8);
        due("fewer, more, more in OLD", x.renew(), 3);
        due("an empty one", x.erase(0, 0), 0);
        due("three rows", x.erase(0, 1), 3);
        due("two rows", x.erase(0, 2), 2);
        WishWays y = new WishWays();
        int[][] rows = {{1, 0, 8}, {0, 1, 8}, {0, 0, 9}};
        for (int i = 0; i < 3; i++) {
            y.row(0, i, 0, 0, 8);
            y.row(1, i, rows[i][0], rows[i][1], rows[i][2]);
        }
        due("match, sets or to unlike", y.renew(), 3);
        y.row(0, 5, 5, 0, 8);
        y.row(0, 5, 6, 0, 8);
        y.row(1, 5, 6, 0, 8);
        y.row(1, 5, 5, 0, 8);
        due("in another order", y.renew(), 1);
        for (int n = 0; n < 12; n++) {
            y.row(0, 6, n, n, 8);
            y.row(1, 6, n, n, 8);
        }
        due("twelve rows alike", y.renew(), 0);
        y.erase(1, 6);
        y.row(1, 6, 0, 0, 8);
        due("eleven fewer", y.renew(), 1);
        due("alike, whatever was there before", y.count(5), 0);
        y.row(1, 6, 100, 1, 7);
        y.renew();
        due("as it is written it goes", y.ends(384, 0), 384);
        due("by its row", y.way(0), 16 * 6);
        y.erase(1, 6);
        y.renew();
        due("without any", y.ends(384, 0), -2);
        due("without any", y.way(0), -2);
    }

    private void lines() {
        says(17, "A LINE has FALLEN or is mended: whether that changed");
        WishWays x = new WishWays();
        due("was not fallen", x.line(0, 7, false), false);
        due("falls", x.line(0, 7, true), true);
        due("had fallen", x.line(0, 7, true), false);
        due("the other way has not", x.line(7, 0, false), false);
        due("is mended", x.line(0, 7, false), true);
        due("was mended", x.line(0, 7, false), false);
        says(17, "false without it.");
        for (int box = 0; box < 8; box++) {
            due("to itself", x.line(box, box, true), false);
        }
        refused("from", 0, 7, 0, n -> x.line(n, 3, true) ? 1 : 0);
        refused("to", 0, 7, 0, n -> x.line(3, n, true) ? 1 : 0);
        due("none has fallen", x.count(3), 0);
        term("LINES go from a place to another one; each may FALL and is mended.");
        for (int from = 0; from < 8; from++) {
            for (int to = 0; to < 8; to++) {
                due(from + " to " + to, x.line(from, to, true), from != to);
            }
        }
        due("all", x.count(3), 56);
        for (int from = 0; from < 8; from++) {
            for (int to = 0; to < 8; to++) {
                due(from + " to " + to, x.line(from, to, false), from != to);
            }
        }
        due("none", x.count(3), 0);
    }

    private void entries() {
        says(18, "ENTRIES (0 to 255): what they were");
        WishWays x = with("1");
        due("all at first", x.entries(0), 255);
        due("none", x.entries(128), 0);
        due("one", x.entries(255), 128);
        due("all", x.entries(64), 255);
        says(18, "NONE, and nothing happens, for others.");
        refused("places", 0, 255, NONE, x::entries);
        due("nothing happened", x.shown(0, 0), 384);
        due("nothing happened", x.entries(64), 64);
        term("ENTRIES: places (bits; all at first): PACKETS there are the ones that come.");
        WishWays y = with("1");
        due("all at first: packet 0", y.shown(0, 0), 0);
        for (int place = 0; place < 8; place++) {
            y.entries(1 << place);
            due("the first one there", y.shown(0, 0), 64 * place);
        }
        y.entries(0);
        due("nobody comes", y.shown(0, 0), NONE);
    }

    // ---- promises 19 and 20

    private void ending() {
        WishWays x = new WishWays();
        x.row(0, 0, match(0, ANY, ANY), match(ANY, 3, ANY), 8);
        x.row(0, 0, match(1, ANY, ANY), 0, 7);
        x.row(0, 7, 0, 0, 0);
        x.row(1, 7, 0, match(3, 3, 3), 8);
        says(19, "What a PACKET ENDS as, by the NEW TABLES of BOXES (bits), else OLD ones");
        due("packet 0", x.ends(0, 0), 12);
        due("packet 511 by NEW", x.ends(511, 128), 511);
        due("OLD, then NEW", x.ends(16, 128), 511);
        due("all NEW", x.ends(0, 255), -2);
        due("NEW but at 0", x.ends(16, 254), 511);
        says(19, "-2: LOST, -3: a LOOP");
        due("without a row", x.ends(32, 0), -2);
        due("for ever", x.ends(16, 0), -3);
        says(19, "NONE without these.");
        refused("packet", 0, 511, NONE, p -> x.ends(p, 0));
        refused("boxes", 0, 255, NONE, boxes -> x.ends(0, boxes));
    }

    private void walking() {
        term("A PACKET's WAY, by the NEW TABLES of a set of BOXES and the OLD ones of all others: at each place the first ROW that MATCHES: it SETS");
        WishWays x = new WishWays();
        for (int box = 0; box < 8; box++) {
            x.row(0, box, match(ANY, 3, ANY), match(ANY, 1, ANY), 8);
            x.row(0, box, 0, match(0, ANY, ANY), 8);
            x.row(0, box, 0, match(1, ANY, ANY), 8);
            x.row(1, box, 0, match(2, ANY, ANY), 8);
        }
        for (int box = 0; box < 8; box++) {
            due("OLD, its first row", x.ends(64 * box + 60, 255 - (1 << box)), 64 * box + 48 + 4);
            due("OLD, its second row", x.ends(64 * box + 48, 255 - (1 << box)), 64 * box);
            due("NEW", x.ends(64 * box + 60, 1 << box), 64 * box + 32 + 12);
        }
        term("TO 8: it ENDS as it is then, at this place");
        x = new WishWays();
        x.row(0, 0, 0, match(1, 2, 3), 5);
        x.row(0, 5, 0, match(3, ANY, ANY), 8);
        due("as it is at 5", x.ends(0, 0), packet(5, 3, 2, 3));
        term("TO 9, or without a ROW: LOST");
        x.row(0, 1, match(0, 0, 0), match(1, 1, 1), 9);
        due("to 9", x.ends(64, 0), -2);
        due("without a row that matches", x.ends(65, 0), -2);
        due("without any row", x.ends(128, 0), -2);
        term("else it goes to that place (TO its own place, too), unless the LINE there has FALLEN: LOST.");
        x.row(0, 2, match(ANY, ANY, 0), match(ANY, ANY, 1), 2);
        x.row(0, 2, match(ANY, ANY, 1), match(ANY, ANY, 3), 3);
        x.row(0, 3, 0, 0, 8);
        due("to its own place, and on", x.ends(128, 0), 195);
        x.line(3, 2, true);
        due("the other way has fallen", x.ends(128, 0), 195);
        x.line(2, 3, true);
        due("the line has fallen", x.ends(128, 0), -2);
        due("but not the others to 3", x.ends(192, 0), 192);
        x.line(2, 3, false);
        due("mended", x.ends(128, 0), 195);
        x.row(0, 6, 0, 0, 0);
        x.line(6, 0, true);
        due("fallen to 0: packet 384 would be packet 0 there", x.ends(384, 0), -2);
        due("and the others", x.ends(447, 0), -2);
        due("no line can fall to its own place", x.line(2, 2, true), false);
    }

    private void loops() {
        term("If PACKET comes a second time as it was once: a LOOP.");
        WishWays x = new WishWays();
        x.row(0, 4, 0, 0, 4);
        due("to itself as it is", x.ends(256, 0), -3);
        due("it went but once", x.way(1), NONE);
        due("an odd one", x.ends(257, 0), -3);
        due("it went but once", x.way(1), NONE);
        x.row(0, 6, match(ANY, ANY, 0), match(ANY, ANY, 1), 6);
        x.row(0, 6, match(ANY, ANY, 1), match(ANY, ANY, 2), 6);
        x.row(0, 6, match(ANY, ANY, 2), match(ANY, ANY, 0), 6);
        due("a ring of three at one place", x.ends(384, 0), -3);
        due("it went three times", x.way(2), 16 * 6 + 2);
        due("not four", x.way(3), NONE);
        x.row(0, 0, match(ANY, ANY, 0), match(ANY, ANY, 1), 1);
        x.row(0, 0, 0, 0, 8);
        x.row(0, 1, 0, 0, 0);
        due("it comes again, but otherwise", x.ends(0, 0), 1);
        x.row(1, 1, 0, match(ANY, ANY, 0), 0);
        due("it comes again as it was", x.ends(0, 2), -3);
        x.row(0, 5, 0, 0, 0);
        due("into a loop that it does not lie on", x.ends(320, 2), -3);
        x = new WishWays();
        TableTest.countThroughAll(x, 0);
        due("512 packets, none twice", x.ends(0, 0), 448);
        x = new WishWays();
        TableTest.countThroughAll(x, 0);
        x.erase(0, 7);
        TableTest.countThroughAll(x, 1);
        x.renew();
        due("the same by tables written over", x.ends(0, 0), 448);
    }

    private void ways() {
        says(20, "Of the latest ends() that was not NONE the k-th ROW by which it went: 16 * BOX + ROW");
        WishWays x = new WishWays();
        due("ahead of any", x.way(0), NONE);
        for (int n = 0; n < 11; n++) {
            x.row(0, 7, 124, 0, 9);
        }
        x.row(0, 7, 0, 0, 6);
        x.row(0, 6, 0, 0, 0);
        x.row(0, 0, match(0, ANY, ANY), 0, 8);
        x.row(0, 0, match(1, ANY, ANY), 0, 9);
        x.row(0, 0, match(2, ANY, ANY), 0, 7);
        due("ends", x.ends(448, 0), 0);
        due("the first", x.way(0), 16 * 7 + 11);
        due("the second", x.way(1), 16 * 6);
        due("the third", x.way(2), 0);
        due("no fourth", x.way(3), NONE);
        due("ends by to 9", x.ends(464, 0), -2);
        due("that row, too", x.way(2), 1);
        due("no more", x.way(3), NONE);
        due("a loop", x.ends(480, 0), -3);
        due("its last row", x.way(2), 2);
        due("each once", x.way(3), NONE);
        due("NONE", x.ends(512, 0), NONE);
        due("NONE", x.ends(-1, 0), NONE);
        due("NONE", x.ends(0, -1), NONE);
        due("NONE", x.ends(0, 256), NONE);
        due("the latest that was not", x.way(2), 2);
        x.erase(0, 0);
        due("as it went then", x.way(2), 2);
        says(20, "-2: there it was without one");
        due("lost", x.ends(448, 0), -2);
        due("without a row at 0", x.way(2), -2);
        due("no more", x.way(3), NONE);
        due("at once", x.ends(64, 0), -2);
        due("without a row", x.way(0), -2);
        says(20, "NONE: not so many.");
        refused("k", 0, 0, NONE, x::way);
        x.line(7, 6, true);
        due("a fallen line", x.ends(448, 0), -2);
        due("its row", x.way(0), 16 * 7 + 11);
        due("no place behind it", x.way(1), NONE);
        WishWays y = new WishWays();
        TableTest.countThroughAll(y, 0);
        y.ends(0, 0);
        due("the 512th", y.way(511), 16 * 7 + 9);
        refused("k", 0, 511, NONE, y::way);
    }

    // ---- promises 21 to 23

    private void showing() {
        term("SHOWN: the TABLES of a set of BOXES (NEW, else OLD) do as a WISH: of each PACKET at an ENTRY the WISH makes just what it ENDS as, and none if it is LOST or in a LOOP: the least PACKET of which that is not so.");
        WishWays x = with("at=0;a=0;at:7", "at=0;a=0;(at:7+1)", "at=0;(a=0;at:7+a=1)", "at=0;(a=0;at:7+a=2)",
                "at=0;a=0;b:1;at:7", "at=0;a=0;!c=3;at:7", "at=0;a=0;at:7+at=1");
        x.row(0, 0, match(0, ANY, ANY), 0, 7);
        x.row(0, 0, match(1, ANY, ANY), 0, 0);
        x.row(0, 7, 0, 0, 8);
        x.entries(1);
        due("just so", x.shown(0, 0), NONE);
        due("one more", x.shown(1, 0), 0);
        due("some of one in a loop", x.shown(2, 0), 16);
        due("some of one that is lost", x.shown(3, 0), 32);
        due("otherwise, but for b = 1", x.shown(4, 0), 0);
        due("none of one that ends", x.shown(5, 0), 3);
        due("what is not at an entry", x.shown(6, 0), NONE);
        x.entries(3);
        due("at an entry now", x.shown(6, 0), 64);
        says(21, "SHOWN, by the NEW TABLES of BOXES, else OLD ones: the PACKET of which it is not so");
        x.entries(1);
        due("OLD", x.shown(0, 0), NONE);
        due("NEW at 7: lost", x.shown(0, 128), 0);
        due("NEW elsewhere", x.shown(0, 126), NONE);
        WishWays y = with("at=7;a=3;b=3;c=3");
        due("packet 511", y.shown(0, 255), 511);
        WishWays longest = with("at:7;a:0;b:0;c:0", "at:7;a:0;b:0;c:1");
        TableTest.countThroughAll(longest, 0);
        due("a way of 512 places", longest.shown(0, 0), NONE);
        due("a way of 512 places", longest.shown(1, 0), 0);
        says(21, "NONE: it is shown");
        WishWays zero = with("at=0;a:0;b:0;c:0");
        zero.row(0, 0, 0, match(0, 0, 0), 8);
        due("all end as packet 0", zero.shown(0, 0), NONE);
        due("none of all", with("0").shown(0, 0), NONE);
        x.entries(0);
        due("nobody comes", x.shown(1, 255), NONE);
        says(21, "-2 without these.");
        refused("wish", 0, 6, -2, wish -> x.shown(wish, 0));
        refused("boxes", 0, 255, -2, boxes -> x.shown(0, boxes));
        due("no wishes", new WishWays().shown(0, 0), -2);
    }

    private void guessing() {
        term("GUESSED: all WISHES that are shown so.");
        WishWays x = new WishWays();
        due("no wishes", x.guessed(0), 0);
        for (int n = 0; n < 12; n++) {
            Checks.wish(x, n % 4, n % 2 == 0 ? "0" : "at=7");
        }
        due("all that make none", x.guessed(0), 0b010101010101);
        says(22, "GUESSED likewise, as bits");
        x.row(1, 7, 0, 0, 8);
        due("OLD", x.guessed(127), 0b010101010101);
        due("NEW", x.guessed(128), 0b101010101010);
        x.row(1, 0, 0, 0, 8);
        due("none", x.guessed(255), 0);
        x.entries(0);
        due("all", x.guessed(255), 4095);
        says(22, "NONE without these.");
        refused("boxes", 0, 255, NONE, x::guessed);
        refused("boxes, without wishes", 0, 255, NONE, boxes -> new WishWays().guessed(boxes));
    }

    private void packing() {
        says(23, "PACKED: the ROWS as bits");
        WishWays x = new WishWays();
        for (int box = 0; box < 8; box++) {
            due("an empty OLD one", x.packed(0, box), 0);
            due("an empty NEW one", x.packed(1, box), 0);
        }
        for (int n = 0; n < 12; n++) {
            x.row(1, 7, match(n / 4, n % 4, ANY), 0, n % 8);
        }
        due("all twelve", x.packed(1, 7), 4095);
        due("the OLD one is another", x.packed(0, 7), 0);
        x.erase(1, 7);
        for (int n = 0; n < 12; n++) {
            x.row(1, 7, 0, 0, 8);
        }
        due("twelve alike: the first", x.packed(1, 7), 1);
        due("nothing is written by that", x.count(2), 12);
        says(23, "NONE without these.");
        refused("version", 0, 1, NONE, n -> x.packed(n, 7));
        refused("box", 0, 7, NONE, n -> x.packed(1, n));
    }

    /** A table of rows told as match, sets and to. */
    private static int packedOf(int... rows) {
        WishWays x = new WishWays();
        for (int i = 0; i < rows.length; i += 3) {
            x.row(1, 4, rows[i], rows[i + 1], rows[i + 2]);
        }
        return x.packed(1, 4);
    }

    private void packingTerms() {
        int a0 = match(0, ANY, ANY);
        int one = match(0, 0, 0);
        int last = match(3, 3, 3);
        term("PACKED, of a TABLE: the fewest of its ROWS, in their order, with which each of the 64 PACKETS at its place is dealt with alike");
        due("one that does nothing of its own", packedOf(a0, 0, 3, 0, 0, 3), 2);
        due("one that does", packedOf(a0, 0, 3, 0, 0, 4), 3);
        due("one behind one that has all", packedOf(0, 0, 3, a0, 0, 4), 1);
        due("for the first packet alone", packedOf(one, 0, 3, 0, 0, 4), 3);
        due("for the last packet alone", packedOf(last, 0, 3, 0, 0, 4), 3);
        due("the first packet is dealt with", packedOf(one, 0, 3), 1);
        due("the last packet is dealt with", packedOf(last, 0, 3), 1);
        due("for the first packet, and one too many", packedOf(one, 0, 3, 0, 0, 4, 0, 0, 4), 3);
        due("for the last packet, and one too many", packedOf(last, 0, 3, 0, 0, 4, 0, 0, 4), 3);
        due("a guard ahead of one", packedOf(one, 0, 9, a0, 0, 3), 3);
        due("a guard, and one more than needed", packedOf(one, 0, 9, a0, 0, 3, 0, 0, 3), 5);
        due("four that have all between them", packedOf(25, 0, 3, 50, 0, 3, 75, 0, 3, 100, 0, 3), 15);
        term("(fields as they are then, TO");
        due("fields unlike", packedOf(a0, 1, 3, 0, 0, 3), 3);
        due("set to what it is", packedOf(a0, a0, 3, 0, 0, 3), 2);
        due("to unlike", packedOf(a0, 0, 8, 0, 0, 3), 3);
        due("to its own place is not to leave", packedOf(a0, 0, 8, 0, 0, 4), 3);
        term("without a ROW is as TO 9 there, whatever is SET)");
        due("to 9", packedOf(0, 0, 9), 0);
        due("to 9 with fields set", packedOf(0, 124, 9), 0);
        due("to 9, set in two ways", packedOf(a0, 124, 9, 0, 31, 9), 0);
        due("to 9 behind others", packedOf(a0, 0, 3, 0, 1, 9), 1);
        WishWays again = new WishWays();
        again.row(1, 4, 0, 0, 5);
        again.erase(1, 4);
        again.row(1, 4, a0, 0, 3);
        again.row(1, 4, a0, 0, 3);
        due("without a row in a table that had some", again.packed(1, 4), 1);
        again.row(1, 4, 0, 0, 9);
        due("and with one to 9", again.packed(1, 4), 1);
        term("of several the least number (ROW i is bit i)");
        due("two alike", packedOf(a0, 0, 3, a0, 0, 3), 1);
        due("of as many the least", packedOf(25, 0, 3, 50, 0, 3, 25, 0, 3, 50, 0, 3), 3);
        due("fewer go ahead of less", packedOf(25, 0, 3, 50, 0, 3, 75, 0, 3, 0, 0, 3), 8);
    }

    // ---- promises 39 and 40

    private void dueRow(WishWays x, int box, int k, int match, int sets, int to) {
        due("match of row " + k, x.rows(0, box, k, 0), match);
        due("sets of row " + k, x.rows(0, box, k, 1), sets);
        due("to of row " + k, x.rows(0, box, k, 2), to);
    }

    private static final String TURN_B = "(a=0;b:0+a=1;b:1+a=2;b:2+a=3;b:3)";
    private static final String TURN_C = "(c=0;c:1+c=1;c:2+c=2;c:3+c=3;c:0)";

    private void making() {
        says(39, "MADE: a TABLE becomes these ROWS: how many");
        WishWays x = with("1", "0", "c=0+!c=0;(a=0;a:1+a=1;a:2+a=2;a:3)", TURN_B + ";" + TURN_C, "1+a=3;b=3;c=3;c:0",
                TURN_B + ";" + TURN_C + "+a=3;b=3;c=3", "at=7;a=3;b=3;c=3;b:0");
        for (int n = 0; n < 12; n++) {
            x.row(0, 7, 1, 1, 1);
        }
        due("one for all", x.make(0, 0, 7), 1);
        dueRow(x, 7, 0, 0, 0, 8);
        due("no other row stays", x.count(1), 1);
        due("none of all: one row, too", x.make(1, 1, 0), 1);
        due("the NEW table", x.rows(1, 0, 0, 2), 9);
        due("the last packet alone", x.make(6, 0, 7), 10);
        dueRow(x, 7, 9, 124, match(ANY, 0, ANY), 8);
        says(39, "NONE without these");
        refused("wish", 0, 6, NONE, n -> x.make(n, 0, 7));
        refused("version", 0, 1, NONE, n -> x.make(0, n, 7));
        refused("box", 0, 7, NONE, n -> x.make(0, 0, n));
        due("nothing happened", x.count(1), 10);
        says(39, "-2: there would be more than 12");
        due("twelve are not", with("a=2;b=2;c=2;c:0+a=3;b=3;c=3;c:0").make(0, 0, 0), 12);
        due("thirteen are", with("!b=0;(a=0;a:1+a=1;a:2+a=2;a:3+a=3;a:0)+b=0").make(0, 0, 0), -2);
        due("sixteen are", x.make(3, 0, 7), -2);
        says(39, "-3: the WISH makes several of some PACKET there");
        due("several of the last packet there", x.make(4, 0, 7), -3);
        due("at another place, too", x.make(4, 1, 0), -3);
        WishWays y = with("1+at=6;a=0;b=0;c=0;c:1");
        due("several elsewhere count nothing", y.make(0, 0, 7), 1);
        due("several of the first packet there", y.make(0, 0, 6), -3);
        says(39, "(NONE, -2, -3: nothing happens; -3 ahead of -2)");
        due("several, and too many", x.make(5, 0, 7), -3);
        due("nothing happened", x.count(1), 10);
        dueRow(x, 7, 9, 124, match(ANY, 0, ANY), 8);
        due("nothing happened", x.count(2), 1);
    }

    private void makingTerms() {
        term("MADE: ROWS for a BOX from a WISH that makes one or none of each PACKET at its place.");
        WishWays x = with("at=2;a:1;at:5+at=3;a:2+at=4;(a:0+a:1)", "1");
        due("at 2", x.make(0, 0, 2), 1);
        dueRow(x, 2, 0, 0, 50, 5);
        due("at 3", x.make(0, 0, 3), 1);
        dueRow(x, 3, 0, 0, 75, 8);
        due("at 5 none", x.make(0, 0, 5), 1);
        dueRow(x, 5, 0, 0, 0, 9);
        due("at 4 several", x.make(0, 0, 4), -3);
        term("A ROW is RIGHT for a MATCH, if of all PACKETS that MATCH the WISH makes some, at one place, and each field of these is either as it was with all or one value with all");
        x = with("a=0;at:7+a=1;at:6+a=2;at:6+a=3;at:6", "!a=0", "a=0;c:1+!a=0;c:2", "(c=0;c:1+c=1;c:0+c=2+c=3)",
                "b:1;a=0+!a=0");
        makingForOne();
        due("two places", x.make(0, 0, 0), 4);
        dueRow(x, 0, 0, 25, 0, 7);
        dueRow(x, 0, 1, 50, 0, 6);
        due("none of some", x.make(1, 0, 0), 4);
        dueRow(x, 0, 0, 25, 0, 9);
        dueRow(x, 0, 3, 100, 0, 8);
        due("two values", x.make(2, 0, 0), 4);
        dueRow(x, 0, 0, 25, 2, 8);
        dueRow(x, 0, 1, 50, 3, 8);
        due("as it was with some, other values with others", x.make(3, 0, 0), 4);
        dueRow(x, 0, 0, 1, 2, 8);
        dueRow(x, 0, 1, 2, 1, 8);
        dueRow(x, 0, 2, 3, 0, 8);
        due("one value with some, as it was with others", x.make(4, 0, 0), 5);
        dueRow(x, 0, 0, 10, 0, 8);
        dueRow(x, 0, 1, 25, 10, 8);
        dueRow(x, 0, 4, 100, 0, 8);
        term(": its SETS (as it is, if both are so) and its TO (8, if that place is the BOX's own).");
        x = with("a=0;a:0+!a=0;a:0;at:7");
        due("a = 0 stays so", x.make(0, 0, 3), 4);
        dueRow(x, 3, 0, 25, 0, 8);
        dueRow(x, 3, 1, 50, 25, 7);
        due("7 is its own", x.make(0, 0, 7), 1);
        dueRow(x, 7, 0, 0, 25, 8);
        x = with("at:0", "at=3;at:0;a=2+at=3;at:7;!a=2");
        due("all to place 0 as they are", x.make(0, 0, 3), 1);
        dueRow(x, 3, 0, 0, 0, 0);
        due("some to place 0 as they are", x.make(1, 0, 3), 4);
        dueRow(x, 3, 2, 75, 0, 0);
        term("A MATCH is RIGHT, too, if it makes none of all: SETS 0, TO 9.");
        x = with("0", "c=3");
        due("none of all", x.make(0, 0, 0), 1);
        dueRow(x, 0, 0, 0, 0, 9);
        due("none of three in four", x.make(1, 0, 0), 4);
        dueRow(x, 0, 2, 3, 0, 9);
        dueRow(x, 0, 3, 4, 0, 8);
    }

    /** One packet, the first or the last, is unlike the 63 others: nine rows for these, the tenth for that one. */
    private void makingForOne() {
        for (int v = 0; v <= 3; v += 3) {
            String others = ";(!a=" + v + "+!b=" + v + "+!c=" + v + ")";
            String one = ";a=" + v + ";b=" + v + ";c=" + v;
            WishWays x = with("1" + others, "at:7" + others, "1" + others + "+1" + one + ";at:7",
                    "1" + others + "+1" + one + ";c:1", "0" + others + "+1" + one);
            int[] sets = {0, 0, 0, 2, 0};
            int[] to = {9, 9, 7, 8, 8};
            for (int wish = 0; wish < 5; wish++) {
                due("ten rows for wish " + wish, x.make(wish, 0, 3), 10);
                dueRow(x, 3, 9, match(v, v, v), sets[wish], to[wish]);
                due("what the others do", x.rows(0, 3, 0, 2), wish == 1 ? 7 : wish == 4 ? 9 : 8);
            }
            due("by its row", x.ends(192 + 21 * v, 0), 192 + 21 * v);
            due("the tenth", x.way(0), 16 * 3 + 9);
            WishWays y = with("1" + others + ";a:3;b:3;c:3;at:7");
            due("all others as packet 511, of one none", y.make(0, 0, 3), 10);
            dueRow(y, 3, 9, match(v, v, v), 0, 9);
        }
    }

    private void makingOrder() {
        term("MATCHES are gone through, those with the most PACKETS first, of as many by numbers");
        WishWays x = with("!a=1;!b=1;!c=1", "a=1;b=1;at:1+!a=1+a=1;!b=1");
        due("too many", x.make(0, 0, 0), -2);
        due("16 packets each, then 4, then 1", x.make(1, 0, 0), 7);
        int[] matches = {5, 15, 20, 25, 75, 100, 60};
        for (int k = 0; k < 7; k++) {
            dueRow(x, 0, k, matches[k], 0, matches[k] == 60 ? 1 : 8);
        }
        term("each that is RIGHT and has a PACKET that none before has becomes a ROW behind the others, till all 64 PACKETS have one.");
        x = with("b=0;at:3+b=1;at:3+b=2;at:3+b=3;at:3", "b=0;c=0+b=0;!c=0;at:1+b=1;at:2+b=2;at:2+b=3;at:2");
        due("one has all", x.make(0, 0, 0), 1);
        dueRow(x, 0, 0, 0, 0, 3);
        due("b = 1, 2, 3, then what is left", x.make(1, 0, 0), 7);
        int[] left = {10, 15, 20, 6, 7, 8, 9};
        for (int k = 0; k < 7; k++) {
            dueRow(x, 0, k, left[k], 0, left[k] >= 10 ? 2 : left[k] == 6 ? 8 : 1);
        }
    }

    private void reading() {
        says(40, "Of a ROW of a TABLE what 0: MATCH, 1: SETS, 2: TO.");
        WishWays x = new WishWays();
        x.row(0, 7, 124, 0, 9);
        x.row(0, 7, 0, 124, 0);
        x.row(1, 7, 3, 4, 5);
        dueRow(x, 7, 0, 124, 0, 9);
        dueRow(x, 7, 1, 0, 124, 0);
        for (int what = 0; what <= 2; what++) {
            due("NEW", x.rows(1, 7, 0, what), 3 + what);
        }
        says(40, "NONE without it, or for another what.");
        refused("version", 0, 1, NONE, n -> x.rows(n, 7, 0, 0));
        refused("box", 7, 7, NONE, n -> x.rows(0, n, 0, 0));
        refused("k", 0, 1, NONE, n -> x.rows(0, 7, n, 0));
        refused("what", 0, 2, NONE, n -> x.rows(0, 7, 1, n));
        x.erase(0, 7);
        due("erased", x.rows(0, 7, 0, 0), NONE);
    }
}
