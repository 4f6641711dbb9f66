/** Parts II and VI of the terms, promises 7 to 13, 33 and 34: wishes held against one another, and told back. */
final class EdgesOfWishes extends Edges {
    EdgesOfWishes(Checks checks, Doc doc) {
        super(checks, doc);
    }

    @Override
    void all() {
        parting();
        partingTerms();
        within();
        rights();
        breaking();
        quarrels();
        ranks();
        joining();
        telling();
        trees();
        laws();
        lawsOfOneField();
        brackets();
        tellingAgain();
        octets();
    }

    // ---- promises 7 and 8

    private void parting() {
        WishWays x = with("a=3;b=3;c=3;at=7;a:0", "0", "1", "a:1+a:2", "a:1+a:3", "a:2+a:1");
        says(7, "The PACKET at which two WISHES PART (what 0)");
        due("the greatest packet", x.parts(0, 1, 0), 511);
        due("the least packet", x.parts(1, 2, 0), 0);
        says(7, "by which (1)");
        due("by", x.parts(0, 1, 1), 463);
        due("by the least packet", x.parts(1, 2, 1), 0);
        says(7, "which of both makes that (2: 0 the first told, 1 the second)");
        due("the first", x.parts(0, 1, 2), 0);
        due("the second", x.parts(1, 0, 2), 1);
        due("of the call, not of their numbers", x.parts(4, 3, 2), 1);
        due("of the call, not of their numbers", x.parts(3, 4, 2), 0);
        says(7, "NONE: EQUAL");
        for (int what = 0; what <= 2; what++) {
            due("itself", x.parts(2, 2, what), NONE);
            due("another text", x.parts(3, 5, what), NONE);
        }
        WishWays y = with("a:1;b=2", "b=2;a:1", "0", "a=1;a=2");
        for (int what = 0; what <= 2; what++) {
            due("equal", y.parts(0, 1, what), NONE);
            due("equal in making none", y.parts(2, 3, what), NONE);
        }
        says(7, "-2 without these.");
        refused("a", 0, 5, -2, a -> x.parts(a, 0, 0));
        refused("b", 0, 5, -2, b -> x.parts(0, b, 0));
        refused("what", 0, 2, -2, what -> x.parts(0, 1, what));
        refused("what of equal ones", 0, 2, -2, what -> y.parts(0, 1, what));
        due("no wishes at all", new WishWays().parts(0, 0, 0), -2);
    }

    private void partingTerms() {
        term("Two WISHES are EQUAL, if they make the same of each PACKET");
        WishWays x = with("!a=0", "a=1+a=2+a=3", "a=1+a=2", "(a:0+a:1)*", "1+a:0+a:1");
        due("equal", x.parts(0, 1, 0), NONE);
        due("not of a = 3", x.parts(0, 2, 0), 48);
        due("equal", x.parts(3, 4, 0), NONE);
        term("they PART at the least PACKET of which they don't");
        x = with("at=7;c=2", "at=6;c=1+at=7;c=2", "at=6;c=1;c:3");
        due("not at the first one, of which both make none", x.parts(0, 1, 0), 385);
        due("not where they are alike", x.parts(1, 2, 0), 385);
        term("by the least PACKET that one makes of it alone");
        x = with("a:1+a:2", "a:1+a:3", "a:0+a:1+a:2+a:3");
        due("16 both make; 32", x.parts(0, 1, 1), 32);
        due("0", x.parts(0, 2, 1), 0);
        due("0 is the second's", x.parts(0, 2, 2), 1);
        term("s is WITHIN t, if all that s makes of a PACKET t makes of it");
        due("a part", x.within(0, 2), 1);
        due("more", x.within(2, 0), 0);
        due("neither", x.within(0, 1), 0);
        due("neither", x.within(1, 0), 0);
    }

    private void within() {
        WishWays x = with("0", "1", "at=0;a=0;b=0;c=0", "at=7;a=3;b=3;c=3", "a:1", "1+a:1");
        says(8, "1 if a is WITHIN b, 0 if not");
        for (int w = 0; w < 6; w++) {
            due("0 within all", x.within(0, w), 1);
            due("itself", x.within(w, w), 1);
        }
        due("packet 0", x.within(2, 1), 1);
        due("packet 511", x.within(3, 1), 1);
        due("by packet 0 alone not", x.within(2, 0), 0);
        due("by packet 511 alone not", x.within(3, 2), 0);
        due("a:1 in 1", x.within(4, 1), 0);
        due("a:1 in 1+a:1", x.within(4, 5), 1);
        says(8, "NONE without these.");
        refused("a", 0, 5, NONE, a -> x.within(a, 1));
        refused("b", 0, 5, NONE, b -> x.within(0, b));
    }

    // ---- promises 9 to 13

    private void rights() {
        says(9, "RIGHT of a HOUSE: true");
        WishWays x = new WishWays();
        for (int house = 0; house < 4; house++) {
            due("none", x.right(house, 0, 0, 0, 0), true);
            due("all", x.right(house, 255, 15, 15, 15), true);
            due("as it was: true, too", x.right(house, 255, 15, 15, 15), true);
        }
        says(9, "false, and nothing happens, for others.");
        Checks.wish(x, 1, "at=0;a=0");
        x.right(1, 1, 1, 15, 7);
        due("as told last", x.breaks(0), 3);
        refused("house", 0, 3, 0, n -> x.right(n, 0, 0, 0, 0) ? 1 : 0);
        due("nothing happened", x.breaks(0), 3);
        WishWays y = new WishWays();
        Checks.wish(y, 2, "at=5;a=1;b=1;c=1");
        refused("places", 0, 255, 0, n -> y.right(2, n, 0, 0, 0) ? 1 : 0);
        refused("a", 0, 15, 0, n -> y.right(2, 0, n, 0, 0) ? 1 : 0);
        refused("b", 0, 15, 0, n -> y.right(2, 0, 0, n, 0) ? 1 : 0);
        refused("c", 0, 15, 0, n -> y.right(2, 0, 0, 0, n) ? 1 : 0);
        due("nothing happened", y.breaks(0), NONE);
        term("RIGHT of a HOUSE: places (8 bits) and values of a, b, c (4 bits each)");
        for (int value = 0; value < 8; value++) {
            WishWays z = new WishWays();
            Checks.wish(z, 0, "at=" + value + ";a=" + value % 4 + ";b=" + value % 4 + ";c=" + value % 4);
            int p = packet(value, value % 4, value % 4, value % 4);
            z.right(0, 1 << value, 1 << value % 4, 1 << value % 4, 1 << value % 4);
            due("just these", z.breaks(0), NONE);
            z.right(0, 255 - (1 << value), 15, 15, 15);
            due("all but this place", z.breaks(0), p);
            z.right(0, 255, 15 - (1 << value % 4), 15, 15);
            due("all but this a", z.breaks(0), p);
            z.right(0, 255, 15, 15 - (1 << value % 4), 15);
            due("all but this b", z.breaks(0), p);
            z.right(0, 255, 15, 15, 15 - (1 << value % 4));
            due("all but this c", z.breaks(0), p);
        }
    }

    private void breaking() {
        term("all at first, as told last");
        WishWays x = new WishWays();
        Checks.wish(x, 3, "1");
        due("all at first", x.breaks(0), NONE);
        x.right(3, 0, 15, 15, 15);
        x.right(3, 127, 15, 15, 15);
        due("as told last", x.breaks(0), 448);
        term("a PACKET is in it, if its place and all fields are");
        x.right(3, 255, 15, 15, 7);
        due("c is not", x.breaks(0), 3);
        x.right(3, 255, 15, 7, 15);
        due("b is not", x.breaks(0), 12);
        x.right(3, 255, 7, 15, 15);
        due("a is not", x.breaks(0), 48);
        term("A WISH KEEPS its HOUSE's RIGHT, if it makes none of each PACKET that is not in it.");
        Checks.wish(x, 3, "at=0;a=0;at:7;a:3");
        x.right(3, 1, 1, 15, 15);
        due("what it makes need not be in it", x.breaks(1), NONE);
        due("of which it makes need", x.breaks(0), 16);
        says(10, "The least PACKET with which a WISH does not KEEP its HOUSE's RIGHT");
        x.right(3, 255, 0, 15, 15);
        due("packet 0", x.breaks(1), 0);
        Checks.wish(x, 2, "at=7;a=3;b=3;c=3");
        x.right(2, 255, 15, 15, 7);
        due("packet 511", x.breaks(2), 511);
        says(10, "NONE: it does");
        x.right(3, 1, 1, 15, 15);
        due("it does", x.breaks(1), NONE);
        Checks.wish(x, 1, "0");
        x.right(1, 0, 0, 0, 0);
        due("of none it makes some", x.breaks(3), NONE);
        says(10, "-2 without it.");
        refused("wish", 0, 3, -2, x::breaks);
        due("no wish at all", new WishWays().breaks(0), -2);
    }

    private void quarrels() {
        term("QUARREL of two WISHES: the least PACKET of which both make some, and unlike ones.");
        WishWays x = with("a=1;b:1+a=2;b:1+a=3;b:1", "a=0;b:2+a=2;b:1+a=3;(b:1+b:2)", "a=0;b:1", "0");
        due("not a = 1, of which one makes none; not a = 2, alike", x.quarrel(0, 1), 48);
        due("one makes more than the other", x.quarrel(1, 0), 48);
        says(11, "The PACKET of a QUARREL");
        due("packet 0", x.quarrel(1, 2), 0);
        WishWays y = with("at=7;a=3;b=3;c=3;c:0", "at=7;a=3;b=3;c=3;c:1", "1");
        due("packet 511", y.quarrel(0, 1), 511);
        says(11, "NONE: none");
        due("none of which both make some", x.quarrel(0, 2), NONE);
        due("with itself", x.quarrel(0, 0), NONE);
        due("with one that makes none", x.quarrel(0, 3), NONE);
        due("two that make none", x.quarrel(3, 3), NONE);
        says(11, "-2 without these.");
        refused("a", 0, 3, -2, a -> x.quarrel(a, 0));
        refused("b", 0, 3, -2, b -> x.quarrel(0, b));
    }

    private void ranks() {
        says(12, "RANK of a HOUSE: what it was");
        WishWays x = new WishWays();
        for (int house = 0; house < 4; house++) {
            due("0 at first", x.rank(house, 9), 0);
            due("9", x.rank(house, 9 - house), 9);
            due("as told last", x.rank(house, 0), 9 - house);
            due("0", x.rank(house, 1 + house), 0);
        }
        says(12, "NONE, and nothing happens, for others.");
        refused("house", 0, 3, NONE, house -> x.rank(house, 0));
        refused("rank", 0, 9, NONE, n -> x.rank(2, n));
        for (int house = 0; house < 4; house++) {
            due("nothing happened", x.rank(house, 0), 1 + house);
        }
    }

    private void joining() {
        term("JOINED: WISHES by RANK (0 to 9; 0 at first; as told last) of their HOUSES, the greatest first");
        WishWays x = new WishWays();
        for (int house = 0; house < 4; house++) {
            Checks.wish(x, house, "a:" + house);
        }
        due("0 at first: of one rank", x.joined(5, 0), 0);
        for (int house = 3; house >= 0; house--) {
            x.rank(house, 9 - house);
            due("the greatest first", x.joined(5, 0), house);
        }
        x.rank(0, 0);
        due("as told last", x.joined(5, 0), 1);
        x.rank(3, 9);
        due("rank 9 ahead of rank 8", x.joined(5, 0), 3);
        term("of one RANK by numbers");
        x.rank(1, 9);
        due("1 ahead of 3", x.joined(5, 0), 1);
        WishWays y = new WishWays();
        Checks.wish(y, 3, "1");
        Checks.wish(y, 0, "1");
        due("numbers of wishes, not of houses", y.joined(5, 0), 0);
        term("of a PACKET the first one makes what it does that makes some");
        WishWays z = new WishWays();
        Checks.wish(z, 0, "a=0;b:3+a=0;b:1");
        Checks.wish(z, 1, "a=1;c:2");
        Checks.wish(z, 2, "1");
        z.rank(0, 3);
        z.rank(1, 2);
        due("the first", z.joined(0, 0), 0);
        due("the first makes none", z.joined(16, 0), 1);
        due("both make none", z.joined(32, 0), 2);
        saysOfJoined(z);
    }

    private void saysOfJoined(WishWays z) {
        WishWays none = with("a=3", "at=1");
        says(13, "JOINED, of a PACKET: what 0 the WISH (NONE)");
        due("wish", z.joined(0, 0), 0);
        due("none makes some", none.joined(0, 0), NONE);
        due("no wishes", new WishWays().joined(511, 0), NONE);
        says(13, "1 how many PACKETS it makes (0)");
        due("two", z.joined(0, 1), 2);
        due("one", z.joined(511, 1), 1);
        due("none makes some", none.joined(0, 1), 0);
        due("no wishes", new WishWays().joined(511, 1), 0);
        says(13, "2 the least of these (NONE)");
        due("the least", z.joined(0, 2), 4);
        due("c:2", z.joined(16, 2), 18);
        due("none makes some", none.joined(0, 2), NONE);
        due("no wishes", new WishWays().joined(511, 2), NONE);
        says(13, "NONE without these.");
        for (int what = 0; what <= 2; what++) {
            int asked = what;
            refused("packet", 0, 511, NONE, p -> z.joined(p, asked));
        }
        refused("what", 0, 2, NONE, what -> z.joined(0, what));
        refused("what, without wishes", 0, 2, NONE, what -> new WishWays().joined(0, what));
    }

    // ---- promises 33 and 34

    private void back(String text, String want) {
        due("'" + text + "' told back", Checks.told(with(text), 0, false), want);
    }

    private void brief(String text, String want) {
        due("'" + text + "' shorter", Checks.told(with(text), 0, true), want);
    }

    private void telling() {
        says(33, "A WISH is TOLD BACK, as it was told or SHORTER: how many bytes OUT has then");
        WishWays x = with(" a = 1 ; 1 ", "0", "!at=7" + "+!at=7".repeat(32));
        due("as it was told", x.tell(0, false), 5);
        due("OUT", x.count(6), 5);
        due("shorter", x.tell(0, true), 3);
        due("OUT", x.count(6), 3);
        due("one byte", x.tell(1, false), 1);
        due("197 bytes", x.tell(2, false), 197);
        due("the last one", x.octet(196), '7');
        String longest = "1" + "*".repeat(199);
        due("200 bytes", with(longest).tell(0, false), 200);
        says(33, "NONE, and OUT stays, without it.");
        refused("wish", 0, 2, NONE, wish -> x.tell(wish, false));
        refused("wish", 0, 2, NONE, wish -> x.tell(wish, true));
        due("OUT stays", x.count(6), 197);
        due("OUT stays", x.octet(0), '!');
        due("no wishes", new WishWays().tell(0, false), NONE);
    }

    private void trees() {
        term("A WISH is a tree: 0, 1, tests and changes");
        for (String atom : new String[] {"0", "1", "a=0", "!a=3", "at:7", "!at=0", "c:2", "b=1"}) {
            back(" " + atom + " ", atom);
            brief("(" + atom + ")", atom);
        }
        term("s *; s + t and s ; t, of several from the left ((s + t) + u)");
        back("(a=1+b=1)+c=1", "a=1+b=1+c=1");
        back("a=1+(b=1+c=1)", "a=1+(b=1+c=1)");
        back("(a=1;b=1);c=1", "a=1;b=1;c=1");
        back("a=1;(b=1;c=1)", "a=1;(b=1;c=1)");
        back("(a=1*)*", "a=1**");
        brief("a=1+b=1+b=1", "a=1+b=1+b=1");
        brief("a=1+(b=1+b=1)", "a=1+b=1");
    }

    private void laws() {
        term("SHORTER by LAWS, from the inner ones outwards, each as often as it can be");
        brief("((a=1;1)*)*+((0+a=1)*+0)", "a=1*");
        brief("0*;1*;(0;b=1)*", "1");
        brief("(a=1;a=2)+(b:1;b=2)+(c=0;c=3)", "0");
        brief("((((1;1);1);1);1)", "1");
        term("s + 0, 0 + s: s");
        brief("a=1+0", "a=1");
        brief("0+a=1", "a=1");
        brief("0+0", "0");
        brief("1+0", "1");
        brief("0+1", "1");
        term("s + t, if both are ALIKE (the same tree): s");
        brief("a=1+a=1", "a=1");
        brief("1+1", "1");
        brief("!a=1+!a=1", "!a=1");
        brief("a:1*+a:1*", "a:1*");
        brief("a=1+a=2", "a=1+a=2");
        brief("a=1+a:1", "a=1+a:1");
        brief("a=1+!a=1", "a=1+!a=1");
        brief("a=1+at=1", "a=1+at=1");
        brief("a=1+a=1*", "a=1+a=1*");
        brief("(a=1+b=1)+(a=1+b=1)", "a=1+b=1");
        brief("(a=1+b=1)+(b=1+a=1)", "a=1+b=1+(b=1+a=1)");
        brief("(a=1;b=1);c=1+a=1;(b=1;c=1)", "a=1;b=1;c=1+a=1;(b=1;c=1)");
        term("1 ; s, s ; 1: s");
        brief("1;a=1", "a=1");
        brief("a=1;1", "a=1");
        brief("1;1", "1");
        brief("1;(a=1+b=1)", "a=1+b=1");
        term("0 ; s, s ; 0: 0");
        brief("0;a=1", "0");
        brief("a=1;0", "0");
        brief("0;1", "0");
        brief("1;0", "0");
        brief("0;0", "0");
        brief("(a=1+b=1)*;0", "0");
        term("0 *, 1 *: 1");
        brief("0*+1", "1");
        brief("1+1*", "1");
        brief("0*", "1");
        brief("1*", "1");
        brief("0**", "1");
        term("s * *: s *");
        brief("a=1**", "a=1*");
        brief("a=1" + "*".repeat(197), "a=1*");
        brief("(a=1;b=1)**", "(a=1;b=1)*");
        brief("a=1*", "a=1*");
    }

    private void lawsOfOneField() {
        term("and where both sides of a ; are tests (no !) or changes of one FIELD");
        brief("!a=1;!a=1", "!a=1;!a=1");
        brief("!a=1;a=1", "!a=1;a=1");
        brief("a=1;!a=1", "a=1;!a=1");
        brief("a:1;!a=1", "a:1;!a=1");
        brief("!a=1;a:1", "!a=1;a:1");
        brief("a=1;b=1", "a=1;b=1");
        brief("a=1;at=1", "a=1;at=1");
        brief("at=1;a:1", "at=1;a:1");
        brief("a=1*;a=1", "a=1*;a=1");
        brief("b=0;a=1;a=1", "b=0;a=1;a=1");
        brief("b=0;(a=1;a=1)", "b=0;a=1");
        for (String f : new String[] {"a", "b", "c", "at"}) {
            term("= n ; = n: = n");
            brief(f + "=3;" + f + "=3", f + "=3");
            brief(f + "=0;" + f + "=0", f + "=0");
            term("= n ; = m (n, m unlike): 0");
            brief(f + "=0;" + f + "=3", "0");
            brief(f + "=3;" + f + "=0", "0");
            term(": n ; : m (also alike): : m");
            brief(f + ":0;" + f + ":3", f + ":3");
            brief(f + ":3;" + f + ":0", f + ":0");
            brief(f + ":3;" + f + ":3", f + ":3");
            term(": n ; = n: : n");
            brief(f + ":0;" + f + "=0", f + ":0");
            brief(f + ":3;" + f + "=3", f + ":3");
            term(": n ; = m: 0");
            brief(f + ":0;" + f + "=3", "0");
            brief(f + ":3;" + f + "=0", "0");
            term("= n ; : n: = n");
            brief(f + "=0;" + f + ":0", f + "=0");
            brief(f + "=3;" + f + ":3", f + "=3");
            brief(f + "=3;" + f + ":0", f + "=3;" + f + ":0");
        }
    }

    private void brackets() {
        term("TOLD BACK: a tree as a text without blanks, with just those ( ) without which it would be read as another tree.");
        back("  a  =  1  +  ! at = 7 ; c : 0 *  ", "a=1+!at=7;c:0*");
        back("((((((((1))))))))", "1");
        for (String forty : new String[] {"1" + ";1".repeat(39), "1" + "+1".repeat(39), "a=1" + ";b:2".repeat(39)}) {
            back(forty, forty);
        }
        back("(a=1)*", "a=1*");
        back("(a=1;b=1)+(c=1;1)", "a=1;b=1+c=1;1");
        back("(a=1+b=1);c=1", "(a=1+b=1);c=1");
        back("c=1;(a=1+b=1)", "c=1;(a=1+b=1)");
        back("(a=1+b=1)*", "(a=1+b=1)*");
        back("(a=1;b=1)*", "(a=1;b=1)*");
        back("((a=1+b=1)*)*", "(a=1+b=1)**");
        back("1+((a=1;b=1)*)", "1+(a=1;b=1)*");
        back("(1;(a=1+b=1)*)+0", "1;(a=1+b=1)*+0");
        back("1+(1;(".repeat(4) + "1+1" + ")".repeat(8), "1+1;(".repeat(4) + "1+1" + ")".repeat(4));
    }

    /** A tree told shorter leaves nothing behind for the next one. */
    private void tellingAgain() {
        term("SHORTER by LAWS, from the inner ones outwards, each as often as it can be");
        String[] texts = new String[10];
        for (int n = 0; n < texts.length; n++) {
            texts[n] = "at=" + n % 8 + ";a=" + n % 4 + ";(b:" + n % 4 + "+c:" + n / 3 + ")*;a:" + n / 3 + "+!b=" + n % 4 + "*";
        }
        WishWays x = with(texts);
        for (int n = 0; n < 30; n++) {
            due("how many bytes", x.tell(n % 10, true), texts[n % 10].length());
            due("the last but one", x.octet(texts[n % 10].length() - 2), '0' + n % 10 % 4);
            due("the third", x.octet(3), '0' + n % 10 % 8);
        }
        // More trees than one text can have, told by one object one behind the other.
        WishWays y = new WishWays();
        for (int n = 0; n < 12; n++) {
            Checks.wish(y, 0, longText(n));
        }
        for (int n = 0; n < 12; n++) {
            due("how many bytes", y.tell(n, true), longText(n).length());
            for (int i = 0; i < 9; i++) {
                due("byte " + i, y.octet(i), longText(n).charAt(i));
            }
        }
    }

    private static String longText(int n) {
        return "at=" + n % 8 + ";a=" + n / 8 + ";b:1;c:1".repeat(19);
    }

    private void octets() {
        says(34, "Byte i of OUT");
        WishWays x = with("!at=7;(c:0+1)*");
        x.tell(0, false);
        String text = "!at=7;(c:0+1)*";
        for (int i = 0; i < text.length(); i++) {
            due("byte " + i, x.octet(i), text.charAt(i));
        }
        says(34, "NONE.");
        refused("i", 0, text.length() - 1, NONE, x::octet);
        due("nothing is told", new WishWays().octet(0), NONE);
        Checks.wish(x, 0, "1;0");
        x.tell(1, true);
        due("the latest", x.octet(0), '0');
        due("what was there is no more", x.octet(1), NONE);
    }
}
