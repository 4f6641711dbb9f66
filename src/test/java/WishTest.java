/** Promises 1 to 8, 33 and 34: the tape, texts and their faults, what wishes make, wishes told back. */
public final class WishTest {
    private static final Checks CHECKS = new Checks();

    public static void main(String[] args) {
        aNewObject();
        feeding();
        ending();
        wishing();
        faults();
        faultsOfMeasure();
        making();
        counting();
        parting();
        within();
        tellingBack();
        shorter();
        octets();
        CHECKS.finish("WishTest");
    }

    private static void due(String call, long got, long want) {
        CHECKS.due(call, got, want);
    }

    private static void aNewObject() {
        CHECKS.promise(1);
        WishWays x = new WishWays();
        for (int what = 0; what <= 7; what++) {
            due("count " + what, x.count(what), 0);
        }
        due("ends without rows", x.ends(0, 0), -2);
        due("way ahead of ends", new WishWays().way(0), -1);
        due("makes without wishes", x.makes(0, 0, -1), -1);
        due("NONE", WishWays.NONE, -1);
    }

    private static void feeding() {
        CHECKS.promise(2);
        WishWays x = new WishWays();
        for (int n = 20; n <= 200; n += 20) {
            due("feed", x.feed(0x30303030, 0, 0, 0, 0), n);
        }
        due("feed beyond 200", x.feed(0, 0, 0, 0, 0), -1);
        due("nothing came", x.count(4), 200);
        due("end 181", x.end(181), 181);
        due("201 bytes are too many", x.feed(0, 0, 0, 0, 0), -1);
        due("nothing came", x.count(4), 181);
        due("end 180", x.end(180), 180);
        due("200 bytes are not", x.feed(0, 0, 0, 0, 0), 200);
        x.end(0);
        // "a:3;b:2;c:1;at:7 " stands as it was fed, the highest byte first.
        x.feed(0x613a333b, 0x623a323b, 0x633a313b, 0x61743a37, 0x20202020);
        due("wish", x.wish(0), 0);
        due("what it makes", x.makes(0, 0, 0), 64 * 7 + 16 * 3 + 4 * 2 + 1);
        x.feed(-1, -1, -1, -1, -1);
        due("bytes above 127", x.wish(0), Checks.fault(0, 0));
    }

    private static void ending() {
        CHECKS.promise(3);
        WishWays x = new WishWays();
        due("end 0 of none", x.end(0), 0);
        due("end 1 of none", x.end(1), -1);
        x.feed(0x31313131, 0, 0, 0, 0);
        due("end 21", x.end(21), -1);
        due("end -1", x.end(-1), -1);
        due("nothing happened", x.count(4), 20);
        due("end 20", x.end(20), 20);
        due("end 1", x.end(1), 1);
        due("bytes", x.count(4), 1);
        due("what is left is the first byte", x.wish(0), 0);
        due("and makes itself", x.makes(0, 77, 0), 77);
    }

    private static void wishing() {
        CHECKS.promise(4);
        WishWays x = new WishWays();
        Checks.put(x, "1");
        due("house 4", x.wish(4), -1);
        due("house -1", x.wish(-1), -1);
        due("the tape stays", x.count(4), 1);
        due("house 3", x.wish(3), 0);
        due("the tape is empty", x.count(4), 0);
        Checks.put(x, "1)");
        due("a fault", x.wish(0), Checks.fault(1, 0));
        due("the tape is empty too", x.count(4), 0);
        due("an empty text", x.wish(0), Checks.fault(0, 0));
        for (int n = 1; n < 12; n++) {
            due("wish", Checks.wish(x, n % 4, "0"), n);
        }
        Checks.put(x, "0");
        due("a thirteenth", x.wish(0), -1);
        due("the tape stays", x.count(4), 1);
        due("wishes", x.count(0), 12);
    }

    private static void fault(String text, int place, int kind) {
        due("'" + text + "'", Checks.wish(new WishWays(), 0, text), Checks.fault(place, kind));
    }

    private static void fine(String text) {
        due("'" + text + "'", Checks.wish(new WishWays(), 0, text), 0);
    }

    private static void faults() {
        CHECKS.promise(4);
        fine("  a  =  3  ;  ( ! at = 7 + c : 0 ) * *  ");
        fine("at:7");
        fault("   ", 3, 0);
        fault("a", 1, 0);
        fault("a ", 2, 0);
        fault("a=", 2, 0);
        fault("a=1;", 4, 0);
        fault("(a=1", 4, 0);
        fault("(a=1 ", 5, 0);
        fault("()", 1, 0);
        fault("a=1)", 3, 0);
        fault("a=1 b=1", 4, 0);
        fault("a=1b=1", 3, 0);
        fault("1 1", 2, 0);
        fault("*", 0, 0);
        fault("1+*", 2, 0);
        fault("1++1", 2, 0);
        fault("d=1", 0, 0);
        fault("aa=1", 0, 0);
        fault("a t=1", 2, 0);
        fault("1;ata=1", 2, 0);
        fault("A=1", 0, 0);
        fault("a=b", 2, 0);
        fault("a1=1", 1, 0);
        fault("a!=1", 1, 0);
        fault("!a:1", 2, 0);
        fault("!!a=1", 1, 0);
        fault("!(a=1)", 1, 0);
        fault("!1", 1, 0);
        fault("!", 1, 0);
        fault("!q=1", 1, 0);
        fault("2", 0, 0);
        fault("01", 0, 0);
        fault("00", 0, 0);
        fault("1;11", 2, 0);
        fault("1\t", 1, 0);
        fault("1\u0000", 1, 0);
        fault("a=1 2", 4, 0);
        fault("az=1", 0, 0);
        WishWays x = new WishWays();
        Checks.put(x, "at=10");
        x.end(4);
        due("only the tape counts, a digit less", x.wish(0), 0);
        Checks.put(x, "at=1");
        x.end(1);
        due("only the tape counts, a letter less", x.wish(0), Checks.fault(1, 0));
    }

    private static void faultsOfMeasure() {
        CHECKS.promise(4);
        fault("a=4", 2, 1);
        fault("b:9", 2, 1);
        fault("c = 10", 4, 1);
        fault("a=00", 2, 1);
        fault("a=01", 2, 1);
        fault("at=8", 3, 1);
        fault("!at=9", 4, 1);
        fault("a=4;zz", 2, 1);
        fine("((((((((1))))))))");
        fault("(((((((((1)))))))))", 8, 2);
        fault("(1);((((((((( ", 12, 2);
        fine("((((((((1)+(1)))))))+(((((((1))))))))");
        fault("1;((((((((1;(a=9))))))))", 12, 2);
        String forty = "1" + ";1".repeat(39);
        fine(forty);
        fine("(" + forty + ")*");
        fault(forty + "+1", 80, 3);
        fault(forty + "+ !a=9", 81, 3);
        fault(forty + "+a=9", 80, 3);
        fault(forty + "+(at:0)", 81, 3);
        // Of one place the least.
        fault(forty + "+2", 80, 0);
        fault(forty + "+zz", 80, 0);
        fault(forty + "+", 80, 0);
        fault(forty + ")", 79, 0);
    }

    private static int make(String text, int packet) {
        WishWays x = new WishWays();
        Checks.wish(x, 0, text);
        int n = x.makes(0, packet, -1);
        return n == 1 ? x.makes(0, packet, 0) : -10 - n;
    }

    private static void making() {
        CHECKS.promise(5);
        int p = 64 * 5 + 16 * 1 + 4 * 2 + 3;
        due("0", make("0", p), -10);
        due("1", make("1", p), p);
        due("a=1", make("a=1", p), p);
        due("a=2", make("a=2", p), -10);
        due("b=2", make("b=2", p), p);
        due("c=3", make("c=3", p), p);
        due("at=5", make("at=5", p), p);
        due("!at=5", make("!at=5", p), -10);
        due("!at=4", make("!at=4", p), p);
        due("a:3", make("a:3", p), p + 32);
        due("b:0", make("b:0", p), p - 8);
        due("c:0", make("c:0", p), p - 3);
        due("at:0", make("at:0", p), p - 320);
        due("; binds more than +", make("0;1+1", p), p);
        due("( )", make("0;(1+1)", p), -10);
        due("; one behind the other", make("a:0;a=0", p), p - 16);
        due("; and the other way round", make("a=0;a:0", p), -10);
        due("s + s", make("a:2+a:2", p), p + 16);
        due("0*", make("0*", p), p);
        WishWays x = new WishWays();
        Checks.wish(x, 0, "(c=0;c:1+c=1;c:2+c=2;c:3+c=3;b:0;at:7)*");
        due("all that is reached", x.makes(0, 8, -1), 5);
        int[] all = {8, 9, 10, 11, 448 + 3};
        for (int k = 0; k < 5; k++) {
            due("rising", x.makes(0, 8, k), all[k]);
        }
        due("k beyond", x.makes(0, 8, 5), -1);
        due("k below", x.makes(0, 8, -2), -1);
        due("packet 512", x.makes(0, 512, -1), -1);
        due("packet -1", x.makes(0, -1, -1), -1);
        due("wish 1", x.makes(1, 0, -1), -1);
        due("wish -1", x.makes(-1, 0, -1), -1);
        Checks.wish(x, 0, "a:0+a:1+a:2+a:3+b:0+b:1+b:2+b:3+at:0+at:1+at:2+at:3+at:4+at:5+at:6+at:7");
        due("itself once", x.makes(1, 0, -1), 14);
        Checks.wish(x, 0, "((a:0+a:1+a:2+a:3);(b:0+b:1+b:2+b:3);(c:0+c:1+c:2+c:3+at:0+at:1+at:2+at:3+at:4+at:5+at:6+at:7))*");
        due("all packets", x.makes(2, 511, -1), 512);
        due("the last", x.makes(2, 0, 511), 511);
        // A count through all packets, a step at a time.
        Checks.wish(x, 0, "(c=0;c:1+c=1;c:2+c=2;c:3+c=3;c:0;(b=0;b:1+b=1;b:2+b=2;b:3+b=3;b:0;"
                + "(a=0;a:1+a=1;a:2+a=2;a:3+a=3;a:0;at=0;at:1)))*");
        Checks.wish(x, 0, "(a:0+a:1);b:1");
        due("all that s makes goes on", x.makes(4, 0, -1), 2);
        due("the greater one, too", x.makes(4, 0, 1), 20);
        Checks.wish(x, 0, "(at=0;b=0;c=0;(a=1;a:0+a=0;b:1))*");
        due("by way of packet 0", x.makes(5, 16, -1), 3);
        due("0", x.makes(5, 16, 0), 0);
        due("and beyond", x.makes(5, 16, 1), 4);
        for (int n = 6; n < 12; n++) {
            Checks.wish(x, 0, "1");
        }
        due("wish 12", x.makes(12, 0, -1), -1);
        due("a long chain", x.makes(3, 0, -1), 128);
        due("its middle", x.makes(3, 60, -1), 68);
    }

    private static void counting() {
        CHECKS.promise(6);
        WishWays x = new WishWays();
        Checks.wish(x, 0, "a=1+a=2;b:0+a=2;b:1");
        due("some", x.of(0, 0), 256);
        due("just itself", x.of(0, 1), 128);
        due("more than one", x.of(0, 2), 128);
        Checks.wish(x, 0, "at:3");
        due("some", x.of(1, 0), 512);
        due("just itself", x.of(1, 1), 64);
        due("more than one", x.of(1, 2), 0);
        due("what 3", x.of(0, 3), -1);
        due("what -1", x.of(0, -1), -1);
        due("wish 2", x.of(2, 0), -1);
    }

    private static void parting() {
        CHECKS.promise(7);
        WishWays x = new WishWays();
        Checks.wish(x, 0, "a:1;(b=2+b=2;c:3)");
        Checks.wish(x, 0, "b=2;a:1+a:1;b=2;c=3");
        Checks.wish(x, 0, "(b=2+b=2;c:3);a:1");
        due("at", x.parts(0, 1, 0), 8);
        due("by", x.parts(0, 1, 1), 16 + 8 + 3);
        due("which", x.parts(0, 1, 2), 0);
        due("which, told the other way round", x.parts(1, 0, 2), 1);
        due("by", x.parts(1, 0, 1), 27);
        for (int what = 0; what < 3; what++) {
            due("equal", x.parts(0, 2, what), -1);
            due("itself", x.parts(1, 1, what), -1);
        }
        Checks.wish(x, 0, "at=0;a=0;b=0;c=0");
        Checks.wish(x, 0, "0");
        due("at packet 0", x.parts(3, 4, 0), 0);
        due("by packet 0", x.parts(3, 4, 1), 0);
        due("which", x.parts(4, 3, 2), 1);
        due("what 3", x.parts(0, 1, 3), -2);
        due("what -1", x.parts(0, 0, -1), -2);
        due("wish 5", x.parts(0, 5, 0), -2);
        due("wish -1", x.parts(-1, 0, 0), -2);
    }

    private static void within() {
        CHECKS.promise(8);
        WishWays x = new WishWays();
        Checks.wish(x, 0, "at=7;a=3;b:1");
        Checks.wish(x, 0, "b:1+c:2");
        due("within", x.within(0, 1), 1);
        due("not within", x.within(1, 0), 0);
        due("itself", x.within(1, 1), 1);
        Checks.wish(x, 0, "at=0;a=0;b=0;c=0");
        due("not by packet 0 alone", x.within(2, 0), 0);
        Checks.wish(x, 0, "at=7;a=3;b=3;c=3");
        due("not by the last packet alone", x.within(3, 0), 0);
        due("wish 4", x.within(0, 4), -1);
        due("wish 4", x.within(4, 0), -1);
    }

    private static void back(String text, String as) {
        WishWays x = new WishWays();
        Checks.wish(x, 0, text);
        CHECKS.due("'" + text + "' told back", Checks.told(x, 0, false), as);
    }

    private static void tellingBack() {
        CHECKS.promise(33);
        back(" ( a = 1 ) ", "a=1");
        back("((a=1))*", "a=1*");
        back("(a=1*)*", "a=1**");
        back("(!at=7 + b:2) + c=0", "!at=7+b:2+c=0");
        back("!at=7 + (b:2 + c=0)", "!at=7+(b:2+c=0)");
        back("(1;0);1", "1;0;1");
        back("1;(0;1)", "1;(0;1)");
        back("(1;0)+(1;0)", "1;0+1;0");
        back("(1+0);(1+0)", "(1+0);(1+0)");
        back("(1+0)*;((1;0)*)", "(1+0)*;(1;0)*");
        back("((1+0)*)*", "(1+0)**");
        back("(((1;0)))", "1;0");
        back("1+0;1*", "1+0;1*");
        String stars = "1" + "*".repeat(199);
        back(stars, stars);
        StringBuilder deep = new StringBuilder("1+b:1");
        for (int i = 0; i < 8; i++) {
            deep.insert(0, "a=0+(").append(")");
        }
        back(deep.toString(), deep.toString());
        back("1" + ";1".repeat(39), "1" + ";1".repeat(39));
        back("a=1" + "+a=1".repeat(39), "a=1" + "+a=1".repeat(39));
        WishWays x = new WishWays();
        Checks.wish(x, 0, "1");
        due("told", x.tell(0, false), 1);
        due("wish 1", x.tell(1, false), -1);
        due("wish -1", x.tell(-1, true), -1);
        due("OUT stays", x.count(6), 1);
    }

    private static void brief(String text, String as) {
        WishWays x = new WishWays();
        Checks.wish(x, 0, text);
        CHECKS.due("'" + text + "' shorter", Checks.told(x, 0, true), as);
    }

    private static void shorter() {
        CHECKS.promise(33);
        brief("a=1+0", "a=1");
        brief("0+a=1", "a=1");
        brief("a=1+a=1", "a=1");
        brief("(a=1;b=1)*+(a=1;b=1)*", "(a=1;b=1)*");
        brief("a=1+a=2", "a=1+a=2");
        brief("a=1+b=1+b=1", "a=1+b=1+b=1");
        brief("a=1;b=1+b=1;a=1", "a=1;b=1+b=1;a=1");
        brief("1;a=1", "a=1");
        brief("a=1;1", "a=1");
        brief("0;a=1", "0");
        brief("a=1;0", "0");
        brief("0*", "1");
        brief("1*", "1");
        brief("a:1***", "a:1*");
        brief("a=1;a=1", "a=1");
        brief("a=1;a=2", "0");
        brief("a:1;a:2", "a:2");
        brief("a:1;a:1", "a:1");
        brief("a:1;a=1", "a:1");
        brief("a:1;a=2", "0");
        brief("a=1;a:1", "a=1");
        brief("a=1;a:2", "a=1;a:2");
        brief("at=1;a=1", "at=1;a=1");
        brief("!a=1;!a=1", "!a=1;!a=1");
        brief("!a=1;a=1", "!a=1;a=1");
        brief("a:1;!a=1", "a:1;!a=1");
        brief("!a=1+!a=1", "!a=1");
        // Only the two sides of one ; count: a row of them is joined from the left.
        brief("b=1;a=1;a=2", "b=1;a=1;a=2");
        brief("b=1;(a=1;a=2)", "0");
        brief("(a=1;a=2+1)*;b:3+(c:1;c=2)", "b:3");
        brief("(a=1;1)+(0+a=1)", "a=1");
        brief("0*;a=1+(1;a=1)", "a=1");
        brief("c=1+(1;(a=1+b=1))", "c=1+(a=1+b=1)");
        brief("c=1;(0+(a=1+b=1))", "c=1;(a=1+b=1)");
    }

    private static void octets() {
        CHECKS.promise(34);
        WishWays x = new WishWays();
        due("nothing is OUT", x.octet(0), -1);
        Checks.wish(x, 0, "!at=7;c:0");
        x.tell(0, false);
        String text = "!at=7;c:0";
        for (int i = 0; i < text.length(); i++) {
            due("octet " + i, x.octet(i), text.charAt(i));
        }
        due("behind", x.octet(text.length()), -1);
        due("ahead", x.octet(-1), -1);
        Checks.wish(x, 0, "1");
        x.tell(1, true);
        due("OUT is the latest", x.octet(0), '1');
        due("and no longer", x.octet(1), -1);
    }
}
