/** Part I of the terms, promises 1 to 6: the tape, texts, their faults, and what wishes make. */
final class EdgesOfTexts extends Edges {
    private static final String FORTY = "1" + ";1".repeat(39);

    EdgesOfTexts(Checks checks, Doc doc) {
        super(checks, doc);
    }

    @Override
    void all() {
        aNewObject();
        feeding();
        ending();
        wishing();
        packetsAndHouses();
        grammar();
        wordsAndBlanks();
        faults();
        bytesByPlace();
        faultsOfMeasure();
        meaning();
        making();
        counting();
        aLife();
    }

    // ---- promises 1 to 4

    private void aNewObject() {
        says(1, "No WISHES, no ROWS.");
        WishWays x = new WishWays();
        due("wishes", x.count(0), 0);
        due("OLD rows", x.count(1), 0);
        due("NEW rows", x.count(2), 0);
        due("wish 0 is not there", x.of(0, 0), NONE);
        for (int box = 0; box < 8; box++) {
            due("an OLD table without rows", x.rows(0, box, 0, 0), NONE);
            due("a NEW table without rows", x.rows(1, box, 0, 0), NONE);
        }
        term("The constants: `NONE = -1`: None.");
        due("NONE", WishWays.NONE, -1);
    }

    private void feeding() {
        says(2, "Twenty bytes come behind the TAPE, of each number the highest first");
        WishWays x = new WishWays();
        x.feed(0x613a333b, 0x623a323b, 0x633a313b, 0x61743a37, 0x3b613d33);
        x.feed(0x2b303b31, 0x3b313b31, 0x3b313b31, 0x3b313b31, 0x3b313b31);
        due("a:3;b:2;c:1;at:7;a=3 and +0;1;1;1;1;1;1;1;1;1", x.wish(0), 0);
        due("it makes", made(x, 0, 0), "505");
        x.feed(0x31ffffff, 0, 0, 0, 0);
        due("a byte is 255 at most, and no sign", x.wish(0), Checks.fault(1, 0));
        x.feed(0x31202020, 0x20202020, 0x20202020, 0x20202020, 0x20202080);
        due("the twentieth byte is the last number's lowest", x.wish(0), Checks.fault(19, 0));
        says(2, "how many it has");
        x = new WishWays();
        due("of none", x.feed(0, 0, 0, 0, 0), 20);
        x.end(3);
        due("of three", x.feed(0, 0, 0, 0, 0), 23);
        due("of 23", x.feed(-1, -1, -1, -1, -1), 43);
        feedingTooMuch();
    }

    private void feedingTooMuch() {
        says(2, "NONE, and none comes, if it would have more than 200");
        WishWays x = new WishWays();
        for (int n = 20; n <= 180; n += 20) {
            due("not yet", x.feed(0x20202020, 0x20202020, 0x20202020, 0x20202020, 0x20202031), n);
        }
        due("just 200", x.feed(0x20202020, 0x20202020, 0x20202020, 0x20202020, 0x20202031), 200);
        due("220", x.feed(0x29292929, 0, 0, 0, 0), NONE);
        due("none came", x.count(4), 200);
        due("nor took another's place", x.wish(0), Checks.fault(39, 0));
        Checks.put(x, "1" + " ".repeat(180));
        due("201", x.feed(0x29292929, 0, 0, 0, 0), NONE);
        due("none came", x.count(4), 181);
        due("not one byte", x.end(182), NONE);
        due("the text is as it was", x.wish(0), 0);
    }

    private void ending() {
        says(3, "The TAPE has its first n bytes alone: n");
        WishWays x = new WishWays();
        x.feed(0x31292929, 0x29292929, 0x29292929, 0x29292929, 0x29292929);
        due("all of it", x.end(20), 20);
        due("all of it", x.count(4), 20);
        due("all but one", x.end(19), 19);
        due("the first", x.end(1), 1);
        x.feed(0x2b302020, 0x20202020, 0x20202020, 0x20202020, 0x20202020);
        due("what comes next is behind it", x.count(4), 21);
        due("1+0 it is", x.wish(0), 0);
        due("and makes itself", made(x, 0, 9), "9");
        x.feed(0, 0, 0, 0, 0);
        due("none", x.end(0), 0);
        due("none", x.count(4), 0);
        due("of none none", x.end(0), 0);
        says(3, "NONE, and nothing happens, if it has not so many, or n is below 0.");
        WishWays y = new WishWays();
        due("of none one", y.end(1), NONE);
        y.feed(0x31202020, 0x20202020, 0x20202020, 0x20202020, 0x20202020);
        refused("end", 0, 20, NONE, y::end);
        due("nothing happened", y.count(4), 20);
        due("it has its bytes", y.wish(0), 0);
        due("what was read is no more", y.end(1), NONE);
    }

    private void wishing() {
        says(4, "The TAPE, which is empty then, is a WISH of a HOUSE: its number");
        WishWays x = new WishWays();
        for (int n = 0; n < 12; n++) {
            due("the next number", Checks.wish(x, n % 4, "a=" + n % 4), n);
            due("the tape is empty then", x.count(4), 0);
        }
        for (int n = 0; n < 12; n++) {
            due("its text", x.makes(n, 16 * (n % 4), 0), 16 * (n % 4));
        }
        says(4, "-2 - its FAULT");
        WishWays y = new WishWays();
        due("nothing on the tape: 1", y.wish(0), -3);
        Checks.put(y, "1;a=4");
        due("1 + 8 * 4 + 1", y.wish(3), -2 - 34);
        due("the tape is empty then, too", y.count(4), 0);
        due("it is no wish", y.count(0), 0);
        due("the next one is the first", Checks.wish(y, 0, "1"), 0);
        readingAnew();
        wishingInVain(x);
    }

    /** What a text left open counts nothing in the next one. */
    private void readingAnew() {
        WishWays x = new WishWays();
        String[] open = {"(1", "((((((((1;", "1+1;(1+1;(1+1;", FORTY + ";1", FORTY, "a=1;(b=1+c=1)*+", "((((((((("};
        for (int n = 0; n < open.length; n++) {
            due("left open", Checks.wish(x, 0, open[n]) < -2, n != 4);
            due("too many )", Checks.wish(x, 0, "1)"), Checks.fault(1, 0));
            due("a good one", Checks.wish(x, 0, "(a=1;b:2)"), n < 4 ? n : n + 1);
            due("is as told", made(x, n < 4 ? n : n + 1, 16), "24");
        }
        WishWays y = new WishWays();
        for (int n = 0; n < 60; n++) {
            due("left open", Checks.wish(y, 0, "0+1;(0+1;(0+1;("), Checks.fault(15, 0));
        }
        due("a good one", Checks.wish(y, 0, "b:1+(b:2+(b:3;(c:1+c:2)))"), 0);
        due("is as told", made(y, 0, 0), "4 8 13 14");
        due("told back", Checks.told(y, 0, false), "b:1+(b:2+b:3;(c:1+c:2))");
    }

    private void wishingInVain(WishWays full) {
        says(4, "NONE, and nothing happens: there are 12, or no such HOUSE.");
        Checks.put(full, "1");
        due("there are 12", full.wish(0), NONE);
        due("the tape stays", full.count(4), 1);
        Checks.put(full, ")");
        due("a fault is not looked for", full.wish(0), NONE);
        due("the tape stays", full.count(4), 2);
        due("12", full.count(0), 12);
        WishWays x = new WishWays();
        Checks.put(x, "1)");
        refused("house", 0, 3, NONE, x::wish);
        due("the tape stays", x.count(4), 2);
        due("no wish", x.count(0), 0);
        due("a good house: it is read now", x.wish(3), Checks.fault(1, 0));
    }

    // ---- I. the terms

    private void packetsAndHouses() {
        term("A PACKET has three fields a, b, c (0 to 3 each) and a place (0 to 7)");
        WishWays x = with("a=3;b=3;c=3;at=7", "a=0;b=0;c=0;at=0");
        due("the greatest alone", x.of(0, 0), 1);
        due("the greatest", x.makes(0, 511, 0), 511);
        due("the least alone", x.of(1, 0), 1);
        due("the least", x.makes(1, 0, 0), 0);
        term("its number is 64 * place + 16 * a + 4 * b + c");
        x = with("a:1;b:2;c:3;at:4");
        due("number", x.makes(0, 511, 0), 64 * 4 + 16 + 8 + 3);
        term("WISHES 0 to 11");
        x = new WishWays();
        refused("of no wishes", 0, -1, NONE, n -> with().of(n, 0));
        for (int n = 0; n < 12; n++) {
            Checks.wish(x, 0, "1");
            due("the last one", x.of(n, 0), 512);
            due("the next one", x.of(n + 1, 0), NONE);
        }
        term("texts of at most 200 bytes");
        due("a wish at the end", Checks.wish(new WishWays(), 0, " ".repeat(197) + "a=1"), 0);
        due("a fault at the end", Checks.wish(new WishWays(), 0, "1" + " ".repeat(198) + ")"), Checks.fault(199, 0));
        due("the end", Checks.wish(new WishWays(), 0, "1;" + " ".repeat(198)), Checks.fault(200, 0));
        term("of a HOUSE (0 to 3)");
        for (int house = 0; house < 4; house++) {
            x = new WishWays();
            Checks.wish(x, house, "1");
            for (int other = 0; other < 4; other++) {
                x.right(other, other == house ? 255 : 0, 15, 15, 15);
            }
            due("its own house's right", x.breaks(0), NONE);
            x.right(house, 254, 15, 15, 15);
            due("its own house's right", x.breaks(0), 0);
        }
    }

    private void fine(String text) {
        due("'" + text + "'", Checks.wish(new WishWays(), 0, text), 0);
    }

    private void amiss(String text, int place, int kind) {
        due("'" + text + "'", Checks.wish(new WishWays(), 0, text), Checks.fault(place, kind));
    }

    private void makesOf(String text, int packet, String want) {
        due("'" + text + "' of " + packet, made(with(text), 0, packet), want);
    }

    private void grammar() {
        term("WISH: SEQUENCE { + SEQUENCE }");
        fine("1");
        fine("1+1");
        fine("1+1;1+1");
        amiss("+1", 0, 0);
        amiss("1+", 2, 0);
        amiss("1++1", 2, 0);
        makesOf("0+1;0", 5, "");
        term("SEQUENCE: FACTOR { ; FACTOR }");
        fine("1;1;1");
        amiss(";1", 0, 0);
        amiss("1;", 2, 0);
        amiss("1;;1", 2, 0);
        amiss("1;+1", 2, 0);
        makesOf("0;1+1", 5, "5");
        term("FACTOR: ATOM { * }");
        fine("1*");
        fine("1" + "*".repeat(199));
        amiss("*", 0, 0);
        amiss("*1", 0, 0);
        amiss("1;*", 2, 0);
        amiss("1*1", 2, 0);
        makesOf("0;0*", 5, "");
        term("ATOM: ( WISH ) | 0 | 1 | FIELD = NUMBER | ! FIELD = NUMBER | FIELD : NUMBER");
        fine("(1+1;1*)");
        fine("(0)");
        fine("a=0");
        fine("!a=0");
        fine("a:0");
        amiss("()", 1, 0);
        amiss("(1", 2, 0);
        amiss("1)", 1, 0);
        amiss("(1))", 3, 0);
        amiss("!a:0", 2, 0);
        amiss("!0", 1, 0);
        amiss("!(1)", 1, 0);
        amiss("!!a=0", 1, 0);
        amiss("a!=0", 1, 0);
        amiss("a==0", 2, 0);
        amiss("0=a", 1, 0);
        amiss("a=a", 2, 0);
        term("FIELD: the WORD a, b, c or at (the place)");
        makesOf("a:3", 0, "48");
        makesOf("b:3", 0, "12");
        makesOf("c:3", 0, "3");
        makesOf("at:7", 0, "448");
        amiss("d=0", 0, 0);
        amiss("t=0", 0, 0);
        amiss("ab=0", 0, 0);
        amiss("bt=0", 0, 0);
    }

    private void wordsAndBlanks() {
        term("WORDS are small letters, NUMBERS digits, as far as these go on");
        amiss("ata=0", 0, 0);
        amiss("att=0", 0, 0);
        amiss("aa=0", 0, 0);
        amiss("1+zat=0", 2, 0);
        amiss("A=0", 0, 0);
        amiss("aT=0", 1, 0);
        amiss("a=00", 2, 1);
        amiss("1+10", 2, 0);
        amiss("a0=0", 1, 0);
        amiss("a=0b=0", 3, 0);
        fine("a=0+at=7");
        term("blanks (32) stand between all of these as one likes");
        String[] signs = {"(", "!", "at", "=", "7", "+", "b", ":", "3", ")", "*", "*", ";", "0", "+", "1"};
        fine("   " + String.join("   ", signs) + "   ");
        fine(String.join("", signs));
        for (int i = 0; i <= signs.length; i++) {
            StringBuilder text = new StringBuilder();
            for (int n = 0; n < signs.length; n++) {
                text.append(n == i ? " " : "").append(signs[n]);
            }
            fine(text + (i == signs.length ? " " : ""));
        }
        amiss("a t=0", 2, 0);
        amiss("a=0 0", 4, 0);
        amiss("1 1", 2, 0);
        amiss("1\t", 1, 0);
        amiss("1\n", 1, 0);
        amiss("\u00a01", 0, 0);
    }

    private void faults() {
        term("FAULTS, the first along the text, 1 + 8 * its place and");
        amiss("z;a=9", 0, 0);
        amiss("a=9;z", 2, 1);
        amiss("a=9;b=9", 2, 1);
        amiss("((((((((( z", 8, 2);
        amiss("z(((((((((", 0, 0);
        amiss(FORTY + "+1+z", 80, 3);
        amiss("(z" + FORTY + "+1", 1, 0);
        due("place 0 and 0", Checks.wish(new WishWays(), 0, ")"), -2 - 1);
        due("place 2 and 1", Checks.wish(new WishWays(), 0, "a=4"), -2 - (1 + 16 + 1));
        due("place 8 and 2", Checks.wish(new WishWays(), 0, "((((((((("), -2 - (1 + 64 + 2));
        due("place 80 and 3", Checks.wish(new WishWays(), 0, FORTY + ";1"), -2 - (1 + 640 + 3));
        term("0 a byte or WORD that can't stand there");
        amiss("%", 0, 0);
        amiss("1 %", 2, 0);
        amiss("1 a", 2, 0);
        amiss("word", 0, 0);
        amiss("a word", 2, 0);
        amiss("a= word", 3, 0);
        amiss("! word", 2, 0);
        amiss("1\u0000", 1, 0);
        term("or the end (behind the last byte");
        amiss("", 0, 0);
        amiss(" ", 1, 0);
        amiss("(", 1, 0);
        amiss("!", 1, 0);
        amiss("at", 2, 0);
        amiss("a=", 2, 0);
        amiss("a= ", 3, 0);
        amiss("a:", 2, 0);
        amiss("!a", 2, 0);
        amiss("!a=", 3, 0);
        amiss("1+", 2, 0);
        amiss("1;  ", 4, 0);
        amiss("(1*", 3, 0);
        term("digits in place of an ATOM that are not just 0 or just 1 stand as a NUMBER that can't stand there)");
        for (String digits : new String[] {"2", "9", "00", "01", "10", "11", "007", "1234567890123"}) {
            amiss(digits, 0, 0);
            amiss("(1;" + digits + ")", 3, 0);
        }
    }

    /** Of each byte behind this start: the fault's place, or -1 where the text is fine. */
    private interface Placed {
        int of(int sign);
    }

    private void eachByte(String start, Placed placed) {
        for (int sign = 0; sign < 256; sign++) {
            String text = start + (char) sign;
            int place = placed.of(sign);
            due("'" + text + "'", Checks.wish(new WishWays(), 0, text), place == -1 ? 0 : Checks.fault(place, 0));
        }
    }

    private static boolean isIn(String signs, int sign) {
        return signs.indexOf(sign) >= 0;
    }

    private static boolean isLetter(int sign) {
        return sign >= 'a' && sign <= 'z';
    }

    /** All 256 bytes at each kind of place. */
    private void bytesByPlace() {
        term("0 a byte or WORD that can't stand there");
        eachByte("", sign -> isIn("01", sign) ? -1 : isIn("(!abc ", sign) ? 1 : 0);
        eachByte("1", sign -> isIn("* ", sign) ? -1 : isIn("+;", sign) ? 2 : isIn("0123456789", sign) ? 0 : 1);
        eachByte("1 ", sign -> isIn("* ", sign) ? -1 : isIn("+;", sign) ? 3 : 2);
        eachByte("a", sign -> isIn("=: t", sign) ? 2 : isLetter(sign) ? 0 : 1);
        eachByte("a ", sign -> isIn("=: ", sign) ? 3 : 2);
        eachByte("!", sign -> isIn("abc ", sign) ? 2 : 1);
        eachByte("!a", sign -> isIn("= t", sign) ? 3 : isLetter(sign) ? 1 : 2);
        eachByte("(1", sign -> sign == ')' ? -1 : isIn("+;* ", sign) ? 3 : isIn("0123456789", sign) ? 1 : 2);
        eachByte("(1)", sign -> isIn("* ", sign) ? -1 : isIn("+;", sign) ? 4 : 3);
        for (int sign = 0; sign < 256; sign++) {
            int want = isIn("0123", sign) ? 0 : isIn("456789", sign) ? Checks.fault(2, 1)
                    : Checks.fault(sign == ' ' ? 3 : 2, 0);
            due("'a=" + (char) sign + "'", Checks.wish(new WishWays(), 0, "a=" + (char) sign), want);
        }
    }

    private void faultsOfMeasure() {
        term("1 a NUMBER behind = or : above what the FIELD can be (at its first digit");
        for (String field : new String[] {"a", "b", "c", "at"}) {
            int most = field.equals("at") ? 7 : 3;
            for (int n = 0; n <= 9; n++) {
                for (String text : new String[] {field + "=" + n, field + ":" + n, "!" + field + " = " + n}) {
                    due("'" + text + "'", Checks.wish(new WishWays(), 0, text),
                            n <= most ? 0 : Checks.fault(text.length() - 1, 1));
                }
            }
        }
        term("more digits than one are above)");
        amiss("a=00", 2, 1);
        amiss("a:01", 2, 1);
        amiss("!at = 07", 6, 1);
        amiss("at:10", 3, 1);
        amiss("c=4294967296", 2, 1);
        term("2 the ninth ( that lies within others");
        fine("((((((((1))))))))");
        amiss("(((((((((1)))))))))", 8, 2);
        amiss("((((((((1;(1))))))))))", 10, 2);
        fine("((((((((1)))))))) + ((((((((1))))))))");
        fine("(1);(1);(1);(1);(1);(1);(1);(1);(1);(1)");
        fine("((((((((1)+(1)))))))+1)");
        amiss("((((((((1(", 9, 0);
        term("3 a forty-first ATOM, ( ) not counted (at its first byte)");
        fine(FORTY);
        fine("((((((((" + FORTY + "))))))))*");
        amiss(FORTY + ";1", 80, 3);
        amiss(FORTY + ";  0", 82, 3);
        amiss(FORTY + "+((( at=1)))", 84, 3);
        amiss(FORTY + "+ ! a = 1", 81, 3);
        amiss(FORTY + "+a=9", 80, 3);
        amiss("!a=1" + "+!a=1".repeat(38) + "+1+1", 197, 3);
        term("Of one place the least.");
        amiss(FORTY + "+2", 80, 0);
        amiss(FORTY + "+11", 80, 0);
        amiss(FORTY + "+word", 80, 0);
        amiss(FORTY + "+%", 80, 0);
        amiss(FORTY + "+", 80, 0);
        amiss(FORTY + "+)", 80, 0);
    }

    private void meaning() {
        int p = packet(5, 1, 2, 3);
        term("It makes of a PACKET a set of PACKETS");
        makesOf("1+1+a=1", p, "347");
        term("0 none");
        due("of none some", with("0").of(0, 0), 0);
        term("1 itself");
        due("of all itself", with("1").of(0, 1), 512);
        term("FIELD = n itself, if the FIELD is n, else none");
        String[] fields = {"a", "b", "c", "at"};
        int[] values = {1, 2, 3, 5};
        for (int i = 0; i < 4; i++) {
            for (int n = 0; n <= (i == 3 ? 7 : 3); n++) {
                makesOf(fields[i] + "=" + n, p, n == values[i] ? "347" : "");
            }
        }
        term("! FIELD = n the other way round");
        for (int i = 0; i < 4; i++) {
            for (int n = 0; n <= (i == 3 ? 7 : 3); n++) {
                makesOf("!" + fields[i] + "=" + n, p, n == values[i] ? "" : "347");
            }
        }
        term("FIELD : n itself with the FIELD n");
        for (int n = 0; n <= 3; n++) {
            makesOf("a:" + n, p, "" + packet(5, n, 2, 3));
            makesOf("b:" + n, p, "" + packet(5, 1, n, 3));
            makesOf("c:" + n, p, "" + packet(5, 1, 2, n));
        }
        for (int n = 0; n <= 7; n++) {
            makesOf("at:" + n, p, "" + packet(n, 1, 2, 3));
        }
        term("s + t: those of both");
        makesOf("a:0+a:3", 0, "0 48");
        makesOf("0+a:3", 0, "48");
        makesOf("a:3+0", 0, "48");
        makesOf("0+0", 0, "");
        term("s ; t: what t makes of all that s makes");
        makesOf("(a:0+a:3);(b:0+b:3)", 0, "0 12 48 60");
        makesOf("0;1", 0, "");
        makesOf("1;0", 0, "");
        makesOf("(a:0+a:1);a:2", 0, "32");
        makesOf("a:3;a=3", 0, "48");
        makesOf("a=3;a:3", 0, "");
        again();
    }

    private void again() {
        term("s *: itself, what s makes of it, what s makes of these, and so on");
        makesOf("0*", 511, "511");
        makesOf("1*", 511, "511");
        makesOf("a=1*", 0, "0");
        makesOf("a:3*", 0, "0 48");
        makesOf("a:3*", 48, "48");
        makesOf("(a=0;a:1+a=1;a:2)*", 0, "0 16 32");
        makesOf("(a=2;a:1+a=1;a:0)*", 32, "0 16 32");
        makesOf("(a=0;a:1+a=1;a:0)*", 16, "0 16");
        makesOf("(a=0;a:1+a=1;a:0)**", 16, "0 16");
        // Steps that lead through 0 and 511, and a way of 512 packets by a step each.
        makesOf("(at=0;a=0;b=0;c=0;c:1+c=2;c:0)*", 2, "0 1 2");
        makesOf("(at=7;a=3;b=3;c=3;c:1+c=2;c:3)*", 510, "509 510 511");
        // By a packet that two others make, that an odd one makes, and that one at another place makes.
        makesOf("(b=0;(c=1;c:0+c=2;c:0+c=0;b:1))*", 1, "0 1 4");
        makesOf("(b=0;(c=1;c:0+c=0;b:1))*", 1, "0 1 4");
        for (int from = 0; from < 8; from++) {
            makesOf("(at=" + from + ";(c=0;c:1+c=1;c:2))*", 64 * from, 64 * from + " " + (64 * from + 1) + " " + (64 * from + 2));
            for (int to = 0; to < 8; to++) {
                int[] all = {64 * from, 64 * to, 64 * to + 1};
                java.util.Arrays.sort(all);
                String want = from == to ? all[0] + " " + all[2] : all[0] + " " + all[1] + " " + all[2];
                makesOf("(at=" + from + ";at:" + to + "+at=" + to + ";c=0;c:1)*", 64 * from, want);
            }
        }
        WishWays x = with("(c=0;c:1+c=1;c:2+c=2;c:3+c=3;c:0;(b=0;b:1+b=1;b:2+b=2;b:3+b=3;b:0;(a=0;a:1+a=1;a:2"
                + "+a=2;a:3+a=3;a:0;!at=7)))*",
                "((c:0+c:1+c:2+c:3);(b:0+b:1+b:2+b:3);(a:0+a:1+a:2+a:3))*;(at:0+at:1+at:2+at:3+at:4+at:5+at:6+at:7)");
        due("64 in a ring", x.makes(0, 64, NONE), 64);
        due("64 to the end of a chain", x.makes(0, 448, NONE), 64);
        due("the last alone", x.makes(0, 511, NONE), 1);
        due("all", x.makes(1, 77, NONE), 512);
    }

    // ---- promises 5 and 6

    private void making() {
        says(5, "How many PACKETS a WISH makes of one (k NONE)");
        WishWays x = with("a=1;(b:0+b:1)", "1");
        due("none", x.makes(0, 0, NONE), 0);
        due("two", x.makes(0, 16, NONE), 2);
        due("of packet 511", x.makes(1, 511, NONE), 1);
        says(5, "or the k-th, rising");
        due("the first", x.makes(0, 16 + 12, 0), 16);
        due("the second", x.makes(0, 16 + 12, 1), 20);
        WishWays all = with("(a:3+a:2+a:1+a:0);(b:3+b:2+b:1+b:0);(c:3+c:2+c:1+c:0);(at:7+at:6+at:5+at:4+at:3+at:2+at:1+at:0)");
        for (int k = 0; k < 500; k += 7) {
            due("of all", all.makes(0, 300, k), k);
        }
        due("the last of all", all.makes(0, 300, 511), 511);
        says(5, "NONE without these.");
        due("of 512 no more", all.makes(0, 300, 512), NONE);
        refused("k", -1, 1, NONE, k -> x.makes(0, 16, k));
        due("of none not the first", x.makes(0, 0, 0), NONE);
        refused("packet", 0, 511, NONE, p -> x.makes(1, p, NONE));
        refused("packet", 0, 511, NONE, p -> all.makes(0, p, 0));
        refused("wish", 0, 1, NONE, w -> x.makes(w, 16, NONE));
    }

    private void counting() {
        says(6, "Of how many PACKETS a WISH makes some (what 0)");
        WishWays x = with("0", "1", "a=3;at:0", "1+a:0", "at=0;a=0;b=0;c=0", "a:0+a:1+a:2");
        int[] some = {0, 512, 128, 512, 1, 512};
        int[] itself = {0, 512, 16, 128, 1, 0};
        int[] several = {0, 0, 0, 384, 0, 512};
        for (int wish = 0; wish < 6; wish++) {
            due("some, wish " + wish, x.of(wish, 0), some[wish]);
        }
        says(6, "just itself (1)");
        for (int wish = 0; wish < 6; wish++) {
            due("itself, wish " + wish, x.of(wish, 1), itself[wish]);
        }
        says(6, "more than one (2)");
        for (int wish = 0; wish < 6; wish++) {
            due("several, wish " + wish, x.of(wish, 2), several[wish]);
        }
        says(6, "NONE without these.");
        refused("what", 0, 2, NONE, what -> x.of(1, what));
        refused("wish", 0, 5, NONE, wish -> x.of(wish, 0));
    }

    private void aLife() {
        term("An object is used for at most 512 calls after it has been made");
        WishWays x = new WishWays();
        x.feed(0x613a3120, 0x20202020, 0x20202020, 0x20202020, 0x20202020);
        x.wish(0);
        for (int call = 3; call <= 511; call++) {
            x.ends(call, call % 256);
        }
        due("the 512th call", x.makes(0, 0, 0), 16);
    }
}
