/** Each promise of the document by runs whose answers were found by hand. */
public final class PromiseTest {
    private static final int LOW = Integer.MIN_VALUE;
    private static final int HIGH = Integer.MAX_VALUE;
    private static final int UNKNOWN = -1000000;
    private static final Check CHECK = new Check("PromiseTest");

    private static void due(String what, long got, long want) {
        CHECK.due(what, got, want);
    }

    public static void main(String[] args) {
        newObject();
        tape();
        textAndFaults();
        textLimits();
        needsAndFaults();
        needsReckoned();
        counts();
        facts();
        goodness();
        ratifying();
        striking();
        banning();
        papers();
        days();
        scopes();
        chains();
        tiesAndHolders();
        heldAndStood();
        altered();
        lists();
        wished();
        would();
        scores();
        champions();
        meetings();
        progress();
        since();
        without();
        acts();
        personal();
        season();
        moments();
        missing();
        standsAndHolding();
        drought();
        back();
        written();
        wrongInputs();
        CHECK.finish();
    }

    /** Two events (less, more), two places, three athletes born on days 0, -7300, -14600; TODAY is 100. */
    private static Rig rig() {
        Rig r = new Rig();
        due("rig", r.text("e0,-1;e1,20;p0,100;p3,2000;a0,0;a-7300,1;a-14600,0;"), 7);
        due("rig", r.x.days(100), 100);
        return r;
    }

    private static String mark(int event, int athlete, int place, int day, int minute, int value) {
        return "m" + event + "," + athlete + "," + place + "," + day + "," + minute + "," + value + ",0,0,0;";
    }

    /** Adds a mark at place 0 and ratifies it. */
    private static int add(Rig r, int event, int athlete, int day, int minute, int value) {
        due("add", r.text(mark(event, athlete, 0, day, minute, value)), 1);
        int k = r.x.is(3) - 1;
        due("add", r.x.ratify(k), r.x.is(5));
        return k;
    }

    // promise 1
    private static void newObject() {
        MarkChains x = new MarkChains();
        for (int what = 0; what <= 11; what++) {
            due("new is " + what, x.is(what), 0);
        }
        due("new fault", x.fault(), -1);
        due("new ended", x.ended(), -1);
        due("new row", x.row(0), -1);
        due("new back", x.back(), -1);
        due("new octet", x.octet(0), -1);
        due("new holding", x.holding(-1), 0);
        due("new holding 0", x.holding(0), -2);
        due("new champion", x.champion(0, 0), -1);
        due("new table", x.table(5, 20000), 0);
        due("NONE", MarkChains.NONE, -1);
    }

    // promises 2, 3
    private static void tape() {
        MarkChains x = new MarkChains();
        due("end 0", x.end(0), 0);
        due("end 1", x.end(1), -1);
        due("end -1", x.end(-1), -1);
        for (int n = 1; n <= 30; n++) {
            due("feed " + n, x.feed(0, 0, 0, 0, 0), 20 * n);
        }
        due("feed 31", x.feed(0, 0, 0, 0, 0), -1);
        due("tape", x.is(7), 600);
        due("end 601", x.end(601), -1);
        due("end 581", x.end(581), 581);
        due("feed 601", x.feed(0, 0, 0, 0, 0), -1);
        due("end 580", x.end(580), 580);
        due("end 581 again", x.end(581), -1);
        due("feed 600", x.feed(0, 0, 0, 0, 0), 600);
        due("end 0 again", x.end(0), 0);
        // e1,7;p2,33;a-4,5; with the highest byte of each int first
        due("feed text", x.feed(0x65312c37, 0x3b70322c, 0x33333b61, 0x2d342c35, 0x3bfffefd), 20);
        due("cut", x.end(17), 17);
        due("text", x.text(), 3);
        due("limit", x.told(0, 0, 1), 7);
        due("height", x.told(1, 0, 1), 33);
        due("born", x.told(2, 0, 0), -4);
        due("empty then", x.is(7), 0);
    }

    private static void textFault(String text, int at) {
        Rig r = rig();
        due("text " + text, r.text(text), -1);
        due("fault of " + text, r.x.fault(), at);
        due("empty then " + text, r.x.is(7), 0);
        due("events after " + text, r.x.is(0), 2);
        due("places after " + text, r.x.is(1), 2);
        due("athletes after " + text, r.x.is(2), 3);
        due("marks after " + text, r.x.is(3), 0);
        due("deeds after " + text, r.x.is(6), 2);
    }

    // promises 4, 6
    private static void textAndFaults() {
        Rig r = rig();
        due("well", r.x.fault(), -1);
        due("empty text", r.text(""), 0);
        due("is a deed", r.x.is(6), 3);
        due("all edges", r.text("e0,99;e1,0;p0,0;p5,5000;a-30000,5;a20000,0;m0,0,0,100,1439,1000000,-99,99,63;m0,0,0,0,0,1,99,0,0;"), 8);
        due("-0", r.text("m-0,-0,-0,-0,0000000,0000001,-0,0,0;"), 1);
        due("mark of a text that is told in it", r.text("e1,3;p1,1;a1,1;m4,5,4,100,0,1,0,0,0;"), 4);
        textFault("x", 0);
        textFault("e", 1);
        textFault("e0", 2);
        textFault("e0,", 3);
        textFault("e0,1", 4);
        textFault("e0;", 2);
        textFault("e0,1,", 4);
        textFault("e,1;", 1);
        textFault("e-,1;", 2);
        textFault("e--1,1;", 2);
        textFault("e+1,1;", 1);
        textFault("e 1,1;", 1);
        textFault("e0,1;;", 5);
        textFault("e0,1; ", 5);
        textFault("E0,1;", 0);
        textFault("e0,00000001;", 10);
        textFault("e0,-00000001;", 11);
        textFault("e2,0;", 1);
        textFault("e-1,0;", 1);
        textFault("e0,100;", 3);
        textFault("e0,-2;", 3);
        textFault("e2x", 1);
        textFault("p6,0;", 1);
        textFault("p0,5001;", 3);
        textFault("p0,-1;", 3);
        textFault("a-30001,0;", 1);
        textFault("a20001,0;", 1);
        textFault("a0,6;", 3);
        textFault("p0,0;a0,0;e0,1;a0,-1;", 18);
        textFault("m2,0,0,0,0,1,0,0,0;", 1);
        textFault("m0,3,0,0,0,1,0,0,0;", 3);
        textFault("m0,0,2,0,0,1,0,0,0;", 5);
        textFault("m0,0,0,101,0,1,0,0,0;", 7);
        textFault("m0,0,0,-1,0,1,0,0,0;", 7);
        textFault("m0,0,0,0,1440,1,0,0,0;", 9);
        textFault("m0,0,0,0,0,0,0,0,0;", 11);
        textFault("m0,0,0,0,0,1000001,0,0,0;", 11);
        textFault("m0,0,0,0,0,1,100,0,0;", 13);
        textFault("m0,0,0,0,0,1,-100,0,0;", 13);
        textFault("m0,0,0,0,0,1,0,100,0;", 15);
        textFault("m0,0,0,0,0,1,0,0,64;", 17);
        textFault("m0,0,0,0,0,1,0,0,0,", 18);
        textFault("m0,0,0,0,0,1,0,0;", 16);
        textFault("m0,0,0,0,0,1,0,0,0;m2,", 20);
        textFault("m2,0,0,0,0,1,0,0,0;e0,0;", 1);
        due("well again", r.text("e0,0;") * 1000 + r.x.fault(), 999);
    }

    private static String repeated(String text, int times) {
        StringBuilder all = new StringBuilder();
        for (int i = 0; i < times; i++) {
            all.append(text);
        }
        return all.toString();
    }

    // promise 4: one too many
    private static void textLimits() {
        Rig r = new Rig();
        due("7 events", r.text(repeated("e0,0;", 6) + "ex"), -1);
        due("7 events", r.x.fault(), 30);
        due("6 events", r.text(repeated("e0,0;", 6)), 6);
        due("one event more", r.text("p0,0;e0,0;"), -1);
        due("one event more", r.x.fault(), 5);
        due("8 places", r.text(repeated("p0,0;", 8)), 8);
        due("9th place", r.text("p0,0;") * 10 + r.x.fault(), -10);
        due("16 athletes", r.text(repeated("a0,0;", 16)), 16);
        due("17th athlete", r.text("a0,0;") * 10 + r.x.fault(), -10);
        due("24 marks", r.text(repeated("m0,0,0,0,0,1,0,0,0;", 24)), 24);
        due("48 marks", r.text(repeated("m0,0,0,0,0,1,0,0,0;", 24)), 24);
        due("61 marks", r.text(repeated("m0,0,0,0,0,1,0,0,0;", 12) + "m"), -1);
        due("61 marks", r.x.fault(), 228);
        due("48 marks still", r.x.is(3), 48);
        due("60 marks", r.text(repeated("m0,0,0,0,0,1,0,0,0;", 12)), 12);
        due("61st mark", r.text("m0,0,0,0,0,1,0,0,0;") * 10 + r.x.fault(), -10);
        due("60 marks", r.x.is(3), 60);
        for (int k = 0; k < 60; k++) {
            due("ratify " + k, r.x.ratify(k), 0);
        }
        due("a full chain", r.x.chain(0, 0, 0, -1), 60);
        due("its last", r.x.chain(0, 0, 0, 59), 59);
        due("behind it", r.x.chain(0, 0, 0, 60), -2);
        due("ban of all", r.x.ban(0, 0, 0), 60);
        due("all struck", r.x.is(9), 60);
        due("none stands", r.x.is(8), 0);
        due("back", r.x.back(), 11);
        due("all stand again", r.x.is(8), 60);
    }

    private static void needsFault(String text, int at) {
        Rig r = rig();
        due("needs first", r.needs("v>0;v>1;"), 2);
        due("needs " + text, r.needs(text), -1);
        due("fault of " + text, r.x.fault(), at);
        due("they stay " + text, r.x.is(4), 2);
        due("empty then " + text, r.x.is(7), 0);
        due("deeds after " + text, r.x.is(6), 3);
    }

    // promises 5, 6
    private static void needsAndFaults() {
        needsFault("v", 1);
        needsFault("v>", 2);
        needsFault("v>1", 3);
        needsFault(";", 0);
        needsFault("v>1;;", 4);
        needsFault("v;", 1);
        needsFault("v>1>2;", 3);
        needsFault("v+>1;", 2);
        needsFault("-1<v;", 0);
        needsFault("v<-1;", 2);
        needsFault("c<1;", 0);
        needsFault("V<1;", 0);
        needsFault("v <1;", 1);
        needsFault("12345678<v;", 7);
        needsFault("v<00000001;", 9);
        needsFault("1v<1;", 1);
        needsFault("vv<1;", 1);
        needsFault("(v)<1;", 2);
        needsFault("(v<1)<1;", 5);
        needsFault("(v<1)+1;", 5);
        needsFault("v+(v)<1;", 2);
        needsFault("v<(1);", 2);
        needsFault("v<1);", 3);
        needsFault("(v<1;", 4);
        needsFault("(v<1))", 5);
        needsFault("()", 1);
        needsFault("v<1&", 4);
        needsFault("v<1&&v<1;", 4);
        needsFault("v<1|;", 4);
        needsFault("v<1!v<1;", 3);
        needsFault("!;", 1);
        needsFault("!!!!!!!v<1;", 6);
        needsFault("(!(!(!(v<1", 6);
        needsFault("(((v<1)&(((((v<1", 12);
        needsFault("!!!v<1&!!!!!!!v<1;", 13);
        needsFault(repeated("v<1;", 8) + "v<1;", 32);
        needsFault(repeated("v<1;", 8) + "?", 32);
        needsFault("v" + repeated("+1", 60) + "<1;", 120);
        needsFault(repeated(repeated("+1", 10).substring(1) + "<1;", 5) + "v" + repeated("*1", 10), 120);
        Rig r = rig();
        due("8 needs", r.needs(repeated("v<1;", 8)), 8);
        due("is 4", r.x.is(4), 8);
        due("60 things", r.needs("v" + repeated("+1", 58) + "<1;"), 1);
        due("6 deep", r.needs("!(!(!(v<1)));!!!!!!v<1|!!!!!!v<1&((((((v<1))))));"), 2);
        due("well", r.x.fault(), -1);
        due("empty", r.needs(""), 0);
        due("is 4", r.x.is(4), 0);
        due("deeds", r.x.is(6), 6);
    }

    private static void holds(Rig r, String need, boolean wanted) {
        due(need, r.needs(need + ";"), 1);
        due("good by " + need, r.x.good(0), wanted ? -1 : 0);
    }

    // promises 5, 10: what needs come to
    private static void needsReckoned() {
        Rig r = rig();
        due("a mark", r.text("m1,1,1,90,77,5000,-15,42,5;"), 1);
        holds(r, "v=5000", true);
        holds(r, "v<5000", false);
        holds(r, "v>5000", false);
        holds(r, "v<5001", true);
        holds(r, "w=0-15", true);
        holds(r, "s=42", true);
        holds(r, "h=2000", true);
        holds(r, "g=20", true);
        holds(r, "e=1", true);
        holds(r, "d=90", true);
        holds(r, "m=77", true);
        holds(r, "l=20", true);
        holds(r, "b=1", true);
        holds(r, "x=1&y=0&z=1", true);
        holds(r, "1-2-3=0-4", true);
        holds(r, "2+3*4=14", true);
        holds(r, "100/7/2=7", true);
        holds(r, "7/2*2=6", true);
        holds(r, "0-7/2=0-3", true);
        holds(r, "w/2=0-7", true);
        holds(r, "w/0=0", true);
        holds(r, "5/0+1=1", true);
        holds(r, "9999999*9999999=9999999*25+6447258", true);
        holds(r, "9999999*9999999<0", false);
        holds(r, "0-1073741*2000-147>0", false);
        holds(r, "0-1073741*2000-1649>0", true);
        holds(r, "1=1|1=0&1=0", true);
        holds(r, "(1=1|1=0)&1=0", false);
        holds(r, "!1=0&1=0", false);
        holds(r, "!(1=0&1=0)", true);
        holds(r, "!!1=1", true);
        holds(r, "1=0|1=0|1=1", true);
        holds(r, "1=1&1=1&1=0", false);
        holds(r, "!w<9|w<9", true);
        due("no wind limit", r.text("e0,-1;m2,0,0,0,0,1,0,0,0;"), 2);
        due("l", r.needs("l=0-1;"), 1);
        due("good by l", r.x.good(1), -1);
        due("not good by l", r.x.good(0), 0);
    }

    // promise 7
    private static void counts() {
        Rig r = rig();
        r.text(mark(0, 0, 0, 1, 0, 9) + mark(0, 0, 0, 1, 0, 9) + mark(0, 1, 0, 1, 0, 9) + "m1,0,0,0,0,1,21,0,0;");
        r.needs("v>0;");
        r.x.ratify(0);
        r.x.ratify(1);
        r.x.strike(1);
        r.x.strike(2);
        r.text(mark(0, 1, 0, 2, 0, 9));
        r.x.ratify(4);
        r.tape("abc");
        int[] wanted = {2, 2, 3, 5, 1, 100, 10, 3, 2, 2, 3, 4};
        for (int what = 0; what < wanted.length; what++) {
            due("is " + what, r.x.is(what), wanted[what]);
        }
        due("is 12", r.x.is(12), -1);
        due("is -1", r.x.is(-1), -1);
        due("is low", r.x.is(LOW), -1);
    }

    // promises 8, 9
    private static void facts() {
        Rig r = rig();
        r.text("m1,2,1,90,77,5000,-15,42,5;a95,2;m0,3,0,90,0,7,0,0,0;a456,2;m0,4,0,90,0,7,0,0,0;");
        int[] wanted = {1, 2, 1, 90, 77, 5000, -15, 42, 5, 40, -1, -1};
        for (int what = 0; what < wanted.length; what++) {
            due("mark " + what, r.x.mark(0, what), wanted[what]);
        }
        due("age cut towards 0", r.x.mark(1, 9), 0);
        due("age below 0", r.x.mark(2, 9), -1);
        r.x.ratify(0);
        r.x.days(5);
        r.x.strike(0);
        due("ratified", r.x.mark(0, 10), 100);
        due("struck", r.x.mark(0, 11), 105);
        due("what 12", r.x.mark(0, 12), UNKNOWN);
        due("what -1", r.x.mark(0, -1), UNKNOWN);
        due("mark 3", r.x.mark(3, 0), UNKNOWN);
        due("mark -1", r.x.mark(-1, 0), UNKNOWN);
        int[][] told = {{0, 0, 0, 0}, {0, 0, 1, -1}, {0, 1, 0, 1}, {0, 1, 1, 20}, {1, 1, 0, 3}, {1, 1, 1, 2000}, {2, 1, 0, -7300},
            {2, 1, 1, 1}, {0, 2, 0, UNKNOWN}, {1, 2, 0, UNKNOWN}, {2, 5, 0, UNKNOWN}, {0, -1, 0, UNKNOWN}, {3, 0, 0, UNKNOWN},
            {-1, 0, 0, UNKNOWN}, {0, 0, 2, UNKNOWN}, {0, 0, -1, UNKNOWN}};
        for (int[] t : told) {
            due("told " + t[0] + " " + t[1] + " " + t[2], r.x.told(t[0], t[1], t[2]), t[3]);
        }
    }

    // promise 10
    private static void goodness() {
        Rig r = rig();
        r.text("m1,0,0,0,0,5,20,0,0;m1,0,0,0,0,5,21,0,0;m0,0,0,0,0,5,99,0,0;e0,0;m2,0,0,0,0,5,0,0,0;m2,0,0,0,0,5,1,0,0;");
        int[] wind = {-1, 8, -1, -1, 8};
        for (int k = 0; k < 5; k++) {
            due("wind of " + k, r.x.good(k), wind[k]);
        }
        r.needs("v=5;v=6;v=7;");
        due("need 1 is the first", r.x.good(0), 1);
        due("ahead of the wind", r.x.good(1), 1);
        r.needs("v=5;v>0;");
        due("wind alone", r.x.good(1), 8);
        due("all hold", r.x.good(0), -1);
        due("no such mark", r.x.good(5), -2);
        due("no such mark", r.x.good(-1), -2);
    }

    // promise 11
    private static void ratifying() {
        Rig r = rig();
        r.text(mark(0, 0, 0, 0, 0, 5) + mark(0, 0, 0, 0, 0, 6) + mark(0, 0, 0, 0, 0, 7) + mark(0, 0, 0, 0, 0, 8));
        r.needs("v<7;");
        due("ratify", r.x.ratify(0), 100);
        due("it is", r.x.ratify(0), -3);
        r.x.strike(0);
        due("it is, struck too", r.x.ratify(0), -3);
        r.x.strike(1);
        due("struck", r.x.ratify(1), -4);
        due("not good", r.x.ratify(2), -5);
        r.x.strike(2);
        due("struck first", r.x.ratify(2), -4);
        r.needs("v<6;");
        due("it is, not good now", r.x.ratify(0), -3);
        due("no such", r.x.ratify(4), -2);
        due("no such", r.x.ratify(-1), -2);
        due("deeds", r.x.is(6), 9);
        due("not ratified", r.x.mark(3, 10), -1);
    }

    // promise 12
    private static void striking() {
        Rig r = rig();
        int k = add(r, 0, 0, 0, 0, 5);
        r.text(mark(0, 0, 0, 0, 0, 6));
        r.x.days(7);
        due("strike", r.x.strike(k), 107);
        due("it is", r.x.strike(k), -3);
        due("one that is not ratified", r.x.strike(1), 107);
        due("no such", r.x.strike(2), -2);
        due("no such", r.x.strike(-1), -2);
        due("known on the day ahead", r.x.chain(0, 0, 106, -1), 1);
        due("known on the day", r.x.chain(0, 0, 107, -1), 0);
    }

    // promise 13
    private static void banning() {
        Rig r = rig();
        for (int day = 10; day <= 14; day++) {
            add(r, 0, 1, day, 0, 50);
        }
        r.text(mark(1, 1, 1, 12, 0, 3) + mark(0, 0, 0, 12, 0, 3));
        r.x.strike(3);
        r.x.days(1);
        due("ban", r.x.ban(1, 11, 13), 3);
        int[] struck = {-1, 101, 101, 100, -1, 101, -1};
        for (int k = 0; k < struck.length; k++) {
            due("struck " + k, r.x.mark(k, 11), struck[k]);
        }
        due("ban of none is a ban", r.x.ban(1, 11, 13), 0);
        due("ban from above to", r.x.ban(1, 13, 12), -1);
        due("no such", r.x.ban(3, 0, 100), -1);
        due("no such", r.x.ban(-1, 0, 100), -1);
        int deeds = r.x.is(6);
        due("any days", r.x.ban(1, LOW, HIGH), 2);
        due("deeds", r.x.is(6), Math.min(12, deeds + 1));
        due("one day", r.x.ban(0, 12, 12), 1);
    }

    // promise 14
    private static void papers() {
        Rig r = rig();
        r.text("m0,0,0,0,0,5,0,0,5;");
        due("more", r.x.paper(0, 34), 39);
        due("none", r.x.paper(0, 0), 39);
        due("the same", r.x.paper(0, 7), 39);
        due("all", r.x.paper(0, 63), 63);
        due("64", r.x.paper(0, 64), -1);
        due("-1", r.x.paper(0, -1), -1);
        due("no such", r.x.paper(1, 0), -1);
        due("no such", r.x.paper(-1, 0), -1);
        due("papers", r.x.mark(0, 8), 63);
        due("deeds", r.x.is(6), 7);
    }

    // promise 15
    private static void days() {
        MarkChains x = new MarkChains();
        due("1", x.days(1), 1);
        due("0", x.days(0), -1);
        due("-1", x.days(-1), -1);
        due("20001", x.days(20001), -1);
        due("high", x.days(HIGH), -1);
        due("19998", x.days(19998), 19999);
        due("20000", x.days(20000), 20000);
        due("one more", x.days(1), 20000);
        due("today", x.is(5), 20000);
        due("deeds", x.is(6), 4);
    }

    // promise 16
    private static void scopes() {
        Rig r = new Rig();
        r.text("e0,-1;" + repeated("p0,0;", 8) + "a0,0;a0,1;a0,2;a0,3;a0,4;a0,5;");
        r.x.days(20000);
        int[][] ages = {{17, 15, 16, 17}, {18, 16, 17}, {19, 16, 17}, {20, 17}, {22, 17}, {23}, {34}, {35, 18}, {39, 18}, {40, 18, 19},
            {44, 18, 19}, {45, 18, 19, 20}, {49, 18, 19, 20}, {50, 18, 19, 20, 21}, {54, 18, 19, 20, 21}};
        for (int k = 0; k < ages.length; k++) {
            int athlete = k % 6;
            int place = k % 8;
            r.text(mark(0, athlete, place, ages[k][0] * 365 + (k % 2 == 0 ? 0 : 364) % 290, 0, 5));
            due("age", r.x.mark(k, 9), ages[k][0]);
            for (int scope = 0; scope <= 21; scope++) {
                boolean in = scope == 0 || scope == athlete + 1 || scope == place + 7;
                for (int i = 1; i < ages[k].length; i++) {
                    in |= scope == ages[k][i];
                }
                due("within " + k + " " + scope, r.x.within(k, scope), in ? 1 : 0);
            }
        }
        due("22", r.x.within(0, 22), -1);
        due("-1", r.x.within(0, -1), -1);
        due("no such", r.x.within(ages.length, 0), -1);
        due("no such", r.x.within(-1, 0), -1);
    }

    private static void chainIs(Rig r, int event, int scope, int day, int... marks) {
        String what = "chain " + event + " " + scope + " " + day;
        due(what, r.x.chain(event, scope, day, -1), marks.length);
        for (int i = 0; i < marks.length; i++) {
            due(what + " at " + i, r.x.chain(event, scope, day, i), marks[i]);
        }
        due(what + " behind", r.x.chain(event, scope, day, marks.length), -2);
    }

    // promises 17, 18
    private static void chains() {
        Rig r = rig();
        int a = add(r, 0, 0, 50, 5, 100);
        int b = add(r, 0, 1, 50, 4, 101);
        int c = add(r, 0, 2, 40, 0, 105);
        int d = add(r, 0, 0, 60, 0, 101);
        int e = add(r, 0, 1, 60, 0, 100);
        int f = add(r, 0, 1, 70, 0, 90);
        chainIs(r, 0, 0, 99);
        due("no record", r.x.record(0, 0, 99), -1);
        chainIs(r, 0, 0, 100, c, b, a, e, f);
        chainIs(r, 0, 0, 20000, c, b, a, e, f);
        chainIs(r, 0, 1, 100, c, a);
        chainIs(r, 0, 2, 100, b, e, f);
        chainIs(r, 0, 3, 100);
        chainIs(r, 0, 8, 100);
        chainIs(r, 1, 0, 100);
        due("record", r.x.record(0, 0, 100), 90);
        due("record of an area", r.x.record(0, 1, 100), 100);
        due("record of a scope without marks", r.x.record(0, 3, 100), -1);
        r.x.days(10);
        r.x.strike(a);
        chainIs(r, 0, 0, 109, c, b, a, e, f);
        chainIs(r, 0, 0, 110, c, b, d, e, f);
        r.x.strike(f);
        due("record fell", r.x.record(0, 0, 110), 100);
        due("record as it was known", r.x.record(0, 0, 109), 90);
        int g = add(r, 1, 0, 5, 0, 7);
        int h = add(r, 1, 1, 5, 0, 9);
        add(r, 1, 2, 6, 0, 8);
        chainIs(r, 1, 0, 110, g, h);
        due("more is better", r.x.record(1, 0, 110), 9);
        due("i -2", r.x.chain(0, 0, 110, -2), -2);
    }

    // promises 19, 20
    private static void tiesAndHolders() {
        Rig r = rig();
        due("no holders", r.x.holders(0, 0, 100), 0);
        due("no ties", r.x.ties(0, 0, 100), 0);
        add(r, 0, 0, 1, 0, 100);
        add(r, 0, 0, 2, 0, 100);
        due("one holder", r.x.holders(0, 0, 100), 1);
        due("a tie with himself", r.x.ties(0, 0, 100), 1);
        add(r, 0, 2, 3, 0, 90);
        due("the better one", r.x.holders(0, 0, 100), 4);
        add(r, 0, 1, 4, 0, 90);
        due("shared", r.x.holders(0, 0, 100), 6);
        due("ties", r.x.ties(0, 0, 100), 2);
        add(r, 0, 0, 5, 0, 91);
        due("a worse one is no tie", r.x.ties(0, 0, 100), 2);
        due("of an area", r.x.holders(0, 2, 100), 2);
        due("ties ahead", r.x.ties(0, 0, 99), 0);
    }

    // promises 21, 22
    private static void heldAndStood() {
        Rig r = rig();
        due("none held", r.x.held(0, 0, 0, 100), 0);
        due("none stood", r.x.stood(0, 0, 100, 0), 0);
        due("none stood", r.x.stood(0, 0, 100, 1), -1);
        int a = add(r, 0, 0, 10, 0, 100);
        add(r, 0, 1, 20, 0, 100);
        add(r, 0, 0, 25, 0, 100);
        int d = add(r, 0, 1, 40, 0, 90);
        int e = add(r, 0, 2, 40, 5, 80);
        add(r, 0, 0, 50, 0, 80);
        int g = add(r, 0, 0, 70, 0, 70);
        due("held by 0", r.x.held(0, 0, 0, 100), 30 + 20 + 30);
        due("held by 1", r.x.held(0, 0, 1, 100), 20);
        due("held by 2", r.x.held(0, 0, 2, 100), 30);
        due("held till later", r.x.held(0, 0, 0, 150), 30 + 20 + 80);
        due("held in his area", r.x.held(0, 2, 1, 100), 20 + 60);
        due("stood", r.x.stood(0, 0, 100, 0), 30);
        due("the first of like ones", r.x.stood(0, 0, 100, 1), a);
        due("stood later", r.x.stood(0, 0, 101, 0), 31);
        due("stood later", r.x.stood(0, 0, 101, 1), g);
        due("stood in an area", r.x.stood(0, 2, 100, 1), d);
        r.x.days(1);
        r.x.strike(g);
        due("stood when struck", r.x.stood(0, 0, 101, 0), 61);
        due("stood when struck", r.x.stood(0, 0, 101, 1), e);
        due("known on the day ahead", r.x.stood(0, 0, 100, 1), a);
        due("what 2", r.x.stood(0, 0, 100, 2), -2);
        due("what -1", r.x.stood(0, 0, 100, -1), -2);
        due("no athlete", r.x.held(0, 0, 3, 100), -2);
    }

    // promise 23
    private static void altered() {
        Rig r = rig();
        add(r, 1, 0, 10, 0, 50);
        int b = add(r, 1, 1, 20, 0, 80);
        int c = add(r, 1, 2, 30, 0, 60);
        int d = add(r, 1, 0, 40, 0, 70);
        r.x.days(1);
        r.x.strike(b);
        due("new", r.x.altered(32, 100, 101, 0), 2);
        due("the lowest new", r.x.altered(32, 100, 101, 1), c);
        due("gone", r.x.altered(32, 100, 101, 2), 1);
        due("the lowest gone", r.x.altered(32, 100, 101, 3), b);
        due("new back", r.x.altered(32, 101, 100, 0), 1);
        due("new back", r.x.altered(32, 101, 100, 1), b);
        due("gone back", r.x.altered(32, 101, 100, 2), 2);
        due("gone back", r.x.altered(32, 101, 100, 3), c);
        due("none new", r.x.altered(32, 101, 101, 1), -1);
        due("none gone", r.x.altered(32, 101, 101, 3), -1);
        due("from nothing", r.x.altered(32, 0, 101, 0), 3);
        due("a scope", r.x.altered(32 + 1, 0, 101, 0), 3);
        due("a scope", r.x.altered(32 + 2, 100, 101, 3), b);
        due("d is in", r.x.chain(1, 0, 101, 2), d);
        due("the other event", r.x.altered(0, 0, 101, 0), 0);
        int[][] wrong = {{-1, 0, 0, 0}, {192, 0, 0, 0}, {64, 0, 0, 0}, {22, 0, 0, 0}, {31, 0, 0, 0}, {0, -1, 0, 0}, {0, 20001, 0, 0},
            {0, 0, -1, 0}, {0, 0, 20001, 0}, {0, 0, 0, 4}, {0, 0, 0, -1}};
        for (int[] w : wrong) {
            due("altered " + java.util.Arrays.toString(w), r.x.altered(w[0], w[1], w[2], w[3]), -2);
        }
    }

    private static void listIs(Rig r, int event, int scope, int day, int... marks) {
        String what = "list " + event + " " + scope + " " + day;
        due(what, r.x.list(event, scope, day, -1), marks.length);
        for (int i = 0; i < marks.length; i++) {
            due(what + " at " + i, r.x.list(event, scope, day, i), marks[i]);
        }
        due(what + " behind", r.x.list(event, scope, day, marks.length), -2);
        due(what + " ahead", r.x.list(event, scope, day, -2), -2);
    }

    // promises 24, 25
    private static void lists() {
        Rig r = rig();
        int a = add(r, 0, 0, 50, 0, 100);
        int b = add(r, 0, 0, 40, 0, 100);
        int c = add(r, 0, 1, 30, 9, 90);
        int d = add(r, 0, 1, 30, 8, 95);
        int e = add(r, 0, 2, 10, 0, 100);
        int f = add(r, 0, 2, 11, 0, 100);
        listIs(r, 0, 0, 100, c, e, b);
        listIs(r, 0, 1, 100, e, b);
        listIs(r, 0, 2, 100, c);
        listIs(r, 0, 4, 100);
        listIs(r, 0, 0, 99);
        due("rank", r.x.rank(c, 0), 0);
        due("rank", r.x.rank(e, 0), 1);
        due("rank", r.x.rank(b, 0), 2);
        due("rank in an area", r.x.rank(b, 1), 1);
        due("not in it", r.x.rank(a, 0), -1);
        due("not in it", r.x.rank(d, 0), -1);
        due("not in it", r.x.rank(f, 0), -1);
        due("not of the scope", r.x.rank(c, 1), -1);
        r.x.days(1);
        r.x.strike(c);
        listIs(r, 0, 0, 101, d, e, b);
        due("rank today", r.x.rank(d, 0), 0);
        due("no such", r.x.rank(6, 0), -2);
        due("no such", r.x.rank(-1, 0), -2);
        due("no scope", r.x.rank(0, 22), -2);
        due("no scope", r.x.rank(0, -1), -2);
    }

    // promise 26
    private static void wished() {
        Rig r = rig();
        due("no marks", r.x.wished(0, 0, 100), -1);
        add(r, 0, 0, 1, 0, 2);
        due("less", r.x.wished(0, 0, 100), 1);
        add(r, 0, 0, 2, 0, 1);
        due("below 1", r.x.wished(0, 0, 100), 0);
        add(r, 1, 0, 1, 0, 999999);
        due("more", r.x.wished(1, 0, 100), 1000000);
        add(r, 1, 0, 2, 0, 1000000);
        due("above", r.x.wished(1, 0, 100), 0);
        due("as known", r.x.wished(1, 0, 99), -1);
    }

    // promise 27
    private static void would() {
        Rig r = rig();
        int a = add(r, 0, 1, 50, 0, 100);
        r.text(mark(0, 0, 0, 60, 0, 101) + mark(0, 0, 0, 60, 0, 100) + mark(0, 2, 1, 49, 0, 500) + "m1,0,0,0,0,1,99,0,0;");
        due("it is ratified", r.x.would(a), -1);
        // scopes of mark 1: 0, 1 (area), 7 (place), 15, 16, 17 (age 0); it is worse in 0, 7 and 17
        due("worse in three", r.x.would(1), 3);
        due("a tie in three", r.x.would(2), 6);
        // scopes of mark 3: 0, 1, 8, 18, 19
        due("ahead of it", r.x.would(3), 5);
        due("not good", r.x.would(4), 6);
        r.x.strike(2);
        due("struck", r.x.would(2), 6);
        r.x.strike(a);
        due("the better one struck", r.x.would(1), 6);
        due("no such", r.x.would(5), -1);
        r.text("a-20000,5;m1,3,1,0,0,1,0,0,0;");
        // scopes: 0, 6, 8, 18 to 21
        due("the last scope", r.x.would(5), 7);
        due("no such", r.x.would(-1), -1);
    }

    private static void scoreFault(String text, int at) {
        Rig r = rig();
        r.text(mark(0, 0, 0, 0, 0, 5));
        r.score("v*2");
        due("score " + text, r.score(text), -1);
        due("fault of " + text, r.x.fault(), at);
        due("it stays " + text, r.x.points(0), 10);
        due("deeds " + text, r.x.is(6), 4);
        due("empty then " + text, r.x.is(7), 0);
    }

    // promises 28, 29
    private static void scores() {
        Rig r = rig();
        r.text(mark(0, 0, 0, 0, 0, 1000000) + mark(0, 0, 0, 0, 0, 1) + mark(1, 1, 1, 10, 3, 77));
        due("less is better", r.x.points(0), 0);
        due("less is better", r.x.points(1), 999999);
        due("more is better", r.x.points(2), 77);
        due("score", r.score("v*10-d+h/100"), 5);
        due("points", r.x.points(2), 780);
        due("at most", r.x.points(0), 1000000);
        due("score", r.score("5-v"), 2);
        due("at least", r.x.points(2), 0);
        due("score", r.score("x+1"), 2);
        due("without the paper", r.x.points(0), 1);
        r.x.paper(0, 1);
        due("with the paper", r.x.points(0), 2);
        due("a number", r.score("0000007"), 1);
        due("a number", r.x.points(0), 7);
        due("60 things", r.score("1" + repeated("+1", 59)), 60);
        due("60 things", r.x.points(0), 60);
        due("empty", r.score(""), 0);
        due("none then", r.x.points(2), 77);
        due("no such", r.x.points(3), -1);
        due("no such", r.x.points(-1), -1);
        scoreFault("v+", 2);
        scoreFault("v;", 1);
        scoreFault("v<1", 1);
        scoreFault("(v)", 0);
        scoreFault("-1", 0);
        scoreFault("v v", 1);
        scoreFault("12345678", 7);
        scoreFault("1" + repeated("+1", 60), 120);
        scoreFault("q", 0);
    }

    // promises 30, 31
    private static void champions() {
        Rig r = rig();
        r.score("v");
        add(r, 0, 0, 1, 0, 10);
        add(r, 0, 0, 2, 0, 30);
        add(r, 1, 0, 3, 0, 5);
        add(r, 0, 1, 4, 0, 20);
        int e = add(r, 1, 1, 5, 0, 15);
        add(r, 0, 2, 6, 0, 31);
        due("champion: of like ones the lowest", r.x.champion(100, 0), 0);
        due("points", r.x.champion(100, 1), 35);
        due("as known", r.x.champion(99, 0), -1);
        due("as known", r.x.champion(99, 1), 0);
        due("table", r.x.table(0, 100), 31 + 5);
        due("table", r.x.table(1, 100), 35);
        due("table", r.x.table(2, 100), 0);
        r.x.days(1);
        r.x.strike(e);
        due("table", r.x.table(1, 101), 20);
        due("table ahead", r.x.table(1, 100), 35);
        r.score("v-v");
        due("none above 0", r.x.champion(101, 0), -1);
        due("none above 0", r.x.champion(101, 1), 0);
        r.score("d");
        due("by other points", r.x.champion(101, 0), 2);
        due("what 2", r.x.champion(0, 2), -2);
        due("what -1", r.x.champion(0, -1), -2);
        due("day", r.x.champion(20001, 0), -2);
        due("day", r.x.champion(-1, 0), -2);
        due("area", r.x.table(6, 0), -2);
        due("area", r.x.table(-1, 0), -2);
        due("day", r.x.table(0, 20001), -2);
        due("day", r.x.table(0, -1), -2);
    }

    // promises 32, 33
    private static void meetings() {
        Rig r = rig();
        r.text(mark(0, 0, 0, 1, 0, 50) + mark(0, 0, 0, 1, 9, 60) + mark(0, 1, 0, 1, 5, 55) + mark(0, 2, 0, 1, 5, 50));
        r.text(mark(0, 1, 1, 1, 0, 1) + mark(0, 1, 0, 2, 0, 1) + mark(1, 1, 0, 1, 0, 1) + mark(1, 0, 0, 1, 0, 1));
        int[] placed = {0, 3, 2, 0, 0, 0, 0, 0};
        for (int k = 0; k < placed.length; k++) {
            due("placed " + k, r.x.placed(k), placed[k]);
        }
        due("duel", r.x.duel(0, 1), 1);
        due("duel", r.x.duel(1, 0), 0);
        due("a tie", r.x.duel(0, 2), 0);
        due("a tie", r.x.duel(2, 0), 0);
        due("duel", r.x.duel(2, 1), 1);
        r.x.strike(0);
        due("struck", r.x.placed(0), -1);
        due("one less", r.x.placed(1), 2);
        due("by the worse one", r.x.duel(0, 1), 0);
        due("the other way", r.x.duel(1, 0), 1);
        r.text(mark(1, 1, 1, 3, 0, 6) + mark(1, 0, 1, 3, 0, 5) + mark(1, 1, 1, 4, 0, 6) + mark(1, 0, 1, 4, 0, 5));
        due("meetings", r.x.duel(1, 0), 3);
        r.x.strike(9);
        due("both must have one", r.x.duel(1, 0), 2);
        r.x.ratify(8);
        due("ratified or not", r.x.placed(8), 0);
        due("no such", r.x.placed(12), -2);
        due("no such", r.x.placed(-1), -2);
        due("one", r.x.duel(1, 1), -2);
        due("no such", r.x.duel(3, 0), -2);
        due("no such", r.x.duel(0, 3), -2);
        due("no such", r.x.duel(-1, 0), -2);
        due("no such", r.x.duel(0, -1), -2);
    }

    // promise 34
    private static void progress() {
        Rig r = rig();
        due("none", r.x.progress(0, 0, 100, 0), 0);
        due("none", r.x.progress(0, 0, 100, 1), 0);
        due("none", r.x.progress(0, 0, 100, 2), -1);
        add(r, 0, 0, 1, 0, 100);
        due("one", r.x.progress(0, 0, 100, 2), -1);
        add(r, 0, 0, 2, 0, 100);
        due("no step", r.x.progress(0, 0, 100, 1), 0);
        due("no step", r.x.progress(0, 0, 100, 2), -1);
        int c = add(r, 0, 1, 3, 0, 90);
        add(r, 0, 0, 4, 0, 89);
        add(r, 0, 1, 5, 0, 79);
        due("in all", r.x.progress(0, 0, 100, 0), 21);
        due("the widest", r.x.progress(0, 0, 100, 1), 10);
        due("the first with it", r.x.progress(0, 0, 100, 2), c);
        due("ahead", r.x.progress(0, 0, 99, 0), 0);
        add(r, 1, 0, 1, 0, 10);
        int g = add(r, 1, 0, 2, 0, 25);
        due("more", r.x.progress(1, 0, 100, 0), 15);
        due("more", r.x.progress(1, 0, 100, 2), g);
        due("what 3", r.x.progress(0, 0, 100, 3), -2);
        due("what -1", r.x.progress(0, 0, 100, -1), -2);
    }

    // promise 35
    private static void since() {
        Rig r = rig();
        int a = add(r, 0, 0, 10, 0, 100);
        int b = add(r, 0, 1, 20, 0, 90);
        r.text(mark(0, 0, 0, 30, 0, 95));
        int c = 2;
        due("not ratified", r.x.since(c, 0), -1);
        r.x.days(1);
        r.x.ratify(c);
        due("since", r.x.since(a, 0), 100);
        due("since", r.x.since(b, 0), 100);
        due("kept out", r.x.since(c, 0), -1);
        due("in his area", r.x.since(c, 1), 101);
        due("not of the scope", r.x.since(c, 2), -1);
        r.x.days(1);
        r.text(mark(0, 2, 0, 15, 0, 94));
        r.x.ratify(3);
        r.x.days(1);
        r.x.strike(b);
        due("kept out by another", r.x.since(c, 0), -1);
        r.x.days(1);
        r.x.strike(3);
        due("since that fell", r.x.since(c, 0), 104);
        due("once in it", r.x.since(b, 0), 100);
        r.x.days(1);
        r.text(mark(0, 2, 0, 16, 0, 1));
        r.x.ratify(4);
        due("since, though it is out now", r.x.since(c, 0), 104);
        due("in a chain no more", r.x.chain(0, 0, 105, -1), 2);
        r.text(mark(0, 2, 0, 14, 0, 1));
        r.x.ratify(5);
        r.x.strike(5);
        due("struck on its day", r.x.since(5, 0), -1);
        due("no such", r.x.since(6, 0), -2);
        due("no such", r.x.since(-1, 0), -2);
        due("scope", r.x.since(0, 22), -2);
        due("scope", r.x.since(0, -1), -2);
    }

    // promise 36
    private static void without() {
        Rig r = rig();
        int a = add(r, 0, 0, 10, 0, 100);
        int b = add(r, 0, 1, 20, 0, 80);
        add(r, 0, 0, 30, 0, 90);
        add(r, 0, 2, 40, 0, 85);
        int e = add(r, 0, 2, 50, 0, 80);
        due("come in", r.x.without(b, 0, 0), 2);
        due("record", r.x.without(b, 0, 1), 80);
        due("the first", r.x.without(a, 0, 0), 0);
        due("the last", r.x.without(e, 0, 1), 80);
        due("not of the scope", r.x.without(b, 1, 0), 0);
        due("not of the scope", r.x.without(b, 1, 1), 80);
        due("none stays", r.x.without(b, 2, 1), -1);
        r.text(mark(0, 0, 0, 60, 0, 1));
        due("not ratified", r.x.without(5, 0, 0), 0);
        due("not ratified", r.x.without(5, 0, 1), 80);
        due("what", r.x.without(0, 0, 2), -2);
        due("what", r.x.without(0, 0, -1), -2);
        due("scope", r.x.without(0, 22, 0), -2);
        due("scope", r.x.without(0, -1, 0), -2);
        due("no such", r.x.without(6, 0, 0), -2);
        due("no such", r.x.without(-1, 0, 0), -2);
    }

    private static void actsFault(Rig r, String text, int at) {
        due("acts " + text, r.acts(text), -1);
        due("fault of " + text, r.x.fault(), at);
        due("empty then " + text, r.x.is(7), 0);
        due("ended stays " + text, r.x.ended(), 2);
        due("row stays " + text, r.x.row(1), 105);
        due("nothing is done " + text, r.x.is(5), 105);
    }

    // promises 37, 38, 39
    private static void acts() {
        Rig r = rig();
        r.text(mark(0, 0, 0, 0, 0, 5) + mark(0, 0, 0, 1, 0, 6) + mark(0, 1, 0, 1, 0, 6));
        due("all", r.acts("r0;d3;p1,9;r1;s0;b0,0,1;"), 6);
        due("none ended it", r.x.ended(), -1);
        int[] rows = {100, 103, 9, 103, 103, 1, -1};
        for (int k = 0; k < rows.length; k++) {
            due("row " + k, r.x.row(k), rows[k]);
        }
        due("row -1", r.x.row(-1), -1);
        due("each is a deed", r.x.is(6), 9);
        due("back one", r.x.back(), 8);
        due("back one", r.x.mark(1, 11), -1);
        due("ended by the third", r.acts("r2;d2;r2;d5;"), 2);
        due("ended", r.x.ended(), 2);
        due("row", r.x.row(0), 103);
        due("row", r.x.row(1), 105);
        due("no row", r.x.row(2), -1);
        due("nothing behind it", r.x.is(5), 105);
        actsFault(r, "d1;x", 3);
        actsFault(r, "d1", 2);
        actsFault(r, "d1,", 2);
        actsFault(r, "d;", 1);
        actsFault(r, "r0;p1;", 5);
        actsFault(r, "b1,2;", 4);
        actsFault(r, "b1,2,3,", 6);
        actsFault(r, "d00000001;", 8);
        actsFault(r, "d1; ", 3);
        actsFault(r, repeated("d1;", 30) + "d", 90);
        actsFault(r, repeated("d1;", 30) + "?", 90);
        due("thirty", r.acts(repeated("d1;", 30)), 30);
        due("the last row", r.x.row(29), 135);
        due("twelve deeds", r.x.is(6), 12);
        due("any numbers", r.acts("d-9999999;"), 0);
        due("any numbers", r.x.ended(), 0);
        due("no rows", r.x.row(0), -1);
        due("any numbers", r.acts("b1,-5,9999999;s77;"), 1);
        due("any numbers", r.x.row(0), 1);
        due("0 is not less than 0", r.acts("b1,0,0;d1;"), 2);
        due("0 is not less than 0", r.x.row(0), 0);
        due("0 is not less than 0", r.x.ended(), -1);
        due("empty", r.acts(""), 0);
        due("empty", r.x.ended(), -1);
        due("well", r.x.fault(), -1);
    }

    // promise 40
    private static void personal() {
        Rig r = rig();
        due("none", r.x.personal(0, 0, -1), 0);
        int a = add(r, 1, 0, 10, 0, 50);
        add(r, 1, 0, 20, 0, 50);
        add(r, 1, 0, 30, 0, 49);
        int d = add(r, 1, 0, 40, 0, 51);
        int e = add(r, 1, 0, 5, 0, 40);
        add(r, 1, 1, 1, 0, 90);
        add(r, 0, 0, 1, 0, 90);
        int[] wanted = {e, a, d};
        due("how many", r.x.personal(0, 1, -1), 3);
        for (int i = 0; i < 3; i++) {
            due("personal " + i, r.x.personal(0, 1, i), wanted[i]);
        }
        due("behind", r.x.personal(0, 1, 3), -2);
        due("ahead", r.x.personal(0, 1, -2), -2);
        r.x.strike(a);
        due("when struck", r.x.personal(0, 1, 1), 1);
        due("of another area", r.x.personal(1, 1, 0), 5);
        due("no athlete", r.x.personal(3, 1, -1), -2);
        due("no athlete", r.x.personal(-1, 1, -1), -2);
        due("no event", r.x.personal(0, 2, -1), -2);
        due("no event", r.x.personal(0, -1, -1), -2);
    }

    // promise 41
    private static void season() {
        Rig r = rig();
        r.x.days(900);
        add(r, 0, 0, 364, 0, 5);
        int b = add(r, 0, 0, 365, 0, 9);
        int c = add(r, 0, 1, 729, 0, 7);
        int d = add(r, 0, 1, 400, 0, 9);
        int e = add(r, 0, 0, 500, 0, 7);
        add(r, 0, 0, 730, 0, 5);
        int[] wanted = {e, c, b, d};
        due("how many", r.x.season(0, 1, -1), 4);
        for (int i = 0; i < 4; i++) {
            due("season " + i, r.x.season(0, 1, i), wanted[i]);
        }
        due("behind", r.x.season(0, 1, 4), -2);
        due("ahead", r.x.season(0, 1, -2), -2);
        due("the year ahead", r.x.season(0, 0, -1), 1);
        due("the year behind", r.x.season(0, 2, -1), 1);
        r.x.strike(e);
        due("when struck", r.x.season(0, 1, 0), c);
        due("year 54", r.x.season(0, 54, -1), 0);
        due("year 55", r.x.season(0, 55, -1), -2);
        due("year -1", r.x.season(0, -1, -1), -2);
        due("no event", r.x.season(2, 0, -1), -2);
    }

    // promise 42
    private static void moments() {
        Rig r = rig();
        due("none", r.x.at(0, 0, 100, 0), -1);
        int a = add(r, 0, 0, 10, 30, 50);
        int b = add(r, 0, 1, 10, 30, 50);
        int c = add(r, 0, 0, 20, 5, 40);
        due("ahead", r.x.at(0, 0, 10, 29), -1);
        due("at it", r.x.at(0, 0, 10, 30), b);
        due("on the day", r.x.at(0, 0, 20, 4), b);
        due("at it", r.x.at(0, 0, 20, 5), c);
        due("later", r.x.at(0, 0, 20000, 1439), c);
        due("an area", r.x.at(0, 1, 10, 30), a);
        r.x.days(1);
        r.x.strike(c);
        due("as known on today", r.x.at(0, 0, 50, 0), b);
        int[][] wrong = {{2, 0, 0, 0}, {-1, 0, 0, 0}, {0, 22, 0, 0}, {0, -1, 0, 0}, {0, 0, -1, 0}, {0, 0, 20001, 0}, {0, 0, 0, -1},
            {0, 0, 0, 1440}};
        for (int[] w : wrong) {
            due("at " + java.util.Arrays.toString(w), r.x.at(w[0], w[1], w[2], w[3]), -2);
        }
    }

    // promise 43
    private static void missing() {
        Rig r = rig();
        r.text(mark(1, 0, 0, 0, 0, 5) + "m1,0,0,0,0,5,50,0,0;m1,0,0,0,0,5,0,0,2;");
        due("good", r.x.missing(0), 0);
        due("the wind", r.x.missing(1), -1);
        r.needs("x=1;");
        due("x", r.x.missing(0), 1);
        r.needs("z=1|y=1;");
        due("the least", r.x.missing(0), 2);
        due("it has one", r.x.missing(2), 0);
        r.needs("x=1&y=1|z=1;");
        due("the fewest", r.x.missing(0), 4);
        due("one more", r.x.missing(2), 1);
        r.needs("x+y+z=2;");
        due("two", r.x.missing(0), 3);
        due("one", r.x.missing(2), 1);
        r.needs("x+y*2+z*4>4;");
        due("two of three", r.x.missing(0), 5);
        due("with y", r.x.missing(2), 4);
        r.needs("x=1;y=1;z=1;");
        due("three", r.x.missing(0), 7);
        due("two more", r.x.missing(2), 5);
        r.needs("y=0;x=1;");
        due("one too many", r.x.missing(2), -1);
        due("papers stay", r.x.mark(2, 8), 2);
        due("no such", r.x.missing(3), -2);
        due("no such", r.x.missing(-1), -2);
    }

    // promises 44, 45
    private static void standsAndHolding() {
        Rig r = rig();
        // scopes of marks of 0 at place 0: 0, 1, 7, 15, 16, 17; of 1: 0, 2, 7, 17; of 2: 0, 1, 7, 18, 19 (ages 0, 20, 40)
        int a = add(r, 0, 0, 10, 0, 50);
        int b = add(r, 0, 1, 20, 0, 40);
        int c = add(r, 0, 2, 30, 0, 45);
        int d = add(r, 0, 0, 40, 0, 48);
        int[][] wanted = {{a, 6, 0, 0, 0}, {b, 4, 4, 4, 4}, {c, 3, 3, 5, 3}, {d, 2, 2, 6, 2}};
        for (int[] w : wanted) {
            for (int what = 0; what < 4; what++) {
                due("stands " + w[0] + " " + what, r.x.stands(w[0], what), w[what + 1]);
            }
        }
        due("holding", r.x.holding(0), 7);
        due("holding 1", r.x.holding(1), 0);
        due("holding all", r.x.holding(-1), 7);
        r.x.strike(d);
        due("holding still", r.x.holding(0), 7);
        r.x.strike(a);
        due("holding no more", r.x.holding(0), 6);
        due("stands no more", r.x.stands(a, 0), 0);
        add(r, 1, 0, 10, 0, 50);
        due("holding 1", r.x.holding(1), 1);
        due("holding all", r.x.holding(-1), 7);
        r.text("a-20000,0;");
        int f = add(r, 0, 3, 11, 0, 60);
        due("holding in the last scope", r.x.holding(0), 14);
        // scopes: 0, 1, 7, 18 to 21
        due("in all its chains", r.x.stands(f, 0), 7);
        due("the last in its age alone", r.x.stands(f, 1), 2);
        due("holding 2", r.x.holding(2), -2);
        due("holding -2", r.x.holding(-2), -2);
        due("what", r.x.stands(0, 4), -2);
        due("what", r.x.stands(0, -1), -2);
        due("no such", r.x.stands(6, 0), -2);
        due("no such", r.x.stands(-1, 0), -2);
    }

    // promise 46
    private static void drought() {
        Rig r = rig();
        due("no marks", r.x.drought(0, 0, 100), 0);
        add(r, 0, 0, 10, 0, 50);
        due("to the day", r.x.drought(0, 0, 100), 90);
        add(r, 0, 0, 60, 0, 50);
        due("to the next", r.x.drought(0, 0, 100), 50);
        add(r, 0, 0, 80, 0, 60);
        due("one that is not in it", r.x.drought(0, 0, 100), 50);
        due("later", r.x.drought(0, 0, 200), 140);
        due("ahead", r.x.drought(0, 0, 99), 0);
    }

    // promise 47
    private static void back() {
        Rig r = new Rig();
        r.text("e0,-1;p0,0;a0,0;");
        r.text("e1,5;p1,1;a1,1;" + mark(0, 0, 0, 0, 0, 5));
        r.needs("v=5;");
        r.score("v+1");
        r.x.ratify(0);
        r.x.paper(0, 3);
        r.x.paper(0, 6);
        r.x.days(7);
        r.x.strike(0);
        r.text(mark(1, 1, 1, 3, 0, 5) + mark(1, 1, 1, 0, 0, 5));
        due("ban", r.x.ban(1, 0, 9), 2);
        due("deeds", r.x.is(6), 11);
        due("not done", r.x.days(0), -1);
        due("no deed", r.x.is(6), 11);
        r.tape("abc");
        due("back of a ban", r.x.back(), 10);
        due("the tape stays", r.x.is(7), 3);
        due("ban", r.x.is(9), 1);
        due("back of a text", r.x.back(), 9);
        due("text", r.x.is(3), 1);
        due("back of a strike", r.x.back(), 8);
        due("strike", r.x.mark(0, 11), -1);
        due("stands again", r.x.chain(0, 0, 7, -1), 1);
        due("back of days", r.x.back(), 7);
        due("days", r.x.is(5), 0);
        due("back of a paper", r.x.back(), 6);
        due("papers", r.x.mark(0, 8), 3);
        due("back of a paper", r.x.back(), 5);
        due("papers", r.x.mark(0, 8), 0);
        due("back of ratify", r.x.back(), 4);
        due("ratify", r.x.mark(0, 10), -1);
        due("points", r.x.points(0), 6);
        due("back of score", r.x.back(), 3);
        due("points", r.x.points(0), 999995);
        due("back of needs", r.x.back(), 2);
        due("needs", r.x.is(4), 0);
        due("back of text", r.x.back(), 1);
        due("events", r.x.is(0), 1);
        due("places", r.x.is(1), 1);
        due("athletes", r.x.is(2), 1);
        due("marks", r.x.is(3), 0);
        due("back of text", r.x.back(), 0);
        due("events", r.x.is(0), 0);
        due("none", r.x.back(), -1);
        for (int n = 1; n <= 15; n++) {
            r.x.days(1);
        }
        due("twelve", r.x.is(6), 12);
        for (int n = 11; n >= 0; n--) {
            due("back", r.x.back(), n);
        }
        due("none", r.x.back(), -1);
        due("three days", r.x.is(5), 3);
    }

    // promises 48, 49
    private static void written() {
        Rig r = rig();
        due("empty", r.x.write(0, 0, 100), 0);
        due("no byte", r.x.octet(0), -1);
        add(r, 0, 0, 1, 0, 1000000);
        add(r, 0, 2, 2, 0, 1000000);
        add(r, 0, 1, 3, 0, 907);
        add(r, 0, 1, 4, 0, 907);
        add(r, 0, 1, 5, 0, 1);
        String wanted = "1000000/0 =1000000/2 907/1 =907/1 1/1";
        due("written", r.x.write(0, 0, 100), wanted.length());
        CHECK.that("written " + r.written(), r.written().equals(wanted));
        due("of an area", r.x.write(0, 2, 100), 16);
        CHECK.that("written " + r.written(), r.written().equals("907/1 =907/1 1/1"));
        due("wrong", r.x.write(0, 22, 100), -2);
        due("stays", r.x.octet(0), '9');
        due("ahead", r.x.octet(-1), -1);
        due("ahead of all", r.x.write(0, 0, 99), 0);
        due("nothing", r.x.octet(0), -1);
        Rig many = new Rig();
        many.text("e1,-1;p0,0;" + repeated("a0,0;", 11));
        for (int n = 0; n < 40; n++) {
            many.text(mark(0, 10, 0, 0, n, 1000000));
            many.x.ratify(n);
        }
        due("400 alone", many.x.write(0, 0, 0), 400);
        due("the last", many.x.octet(399), "1000000/10 ".concat(repeated("=1000000/10 ", 39)).charAt(399));
        due("behind", many.x.octet(400), -1);
    }

    // -2 for others, in all questions of an event, a scope and a day
    private static void wrongInputs() {
        Rig r = rig();
        add(r, 0, 0, 1, 0, 5);
        int[][] wrong = {{-1, 0, 0}, {2, 0, 0}, {HIGH, 0, 0}, {LOW, 0, 0}, {0, -1, 0}, {0, 22, 0}, {0, LOW, 0}, {0, HIGH, 0}, {0, 0, -1},
            {0, 0, 20001}, {0, 0, LOW}, {0, 0, HIGH}};
        for (int[] w : wrong) {
            String what = java.util.Arrays.toString(w);
            due("chain " + what, r.x.chain(w[0], w[1], w[2], -1), -2);
            due("record " + what, r.x.record(w[0], w[1], w[2]), -2);
            due("holders " + what, r.x.holders(w[0], w[1], w[2]), -2);
            due("ties " + what, r.x.ties(w[0], w[1], w[2]), -2);
            due("held " + what, r.x.held(w[0], w[1], 0, w[2]), -2);
            due("stood " + what, r.x.stood(w[0], w[1], w[2], 0), -2);
            due("list " + what, r.x.list(w[0], w[1], w[2], -1), -2);
            due("wished " + what, r.x.wished(w[0], w[1], w[2]), -2);
            due("progress " + what, r.x.progress(w[0], w[1], w[2], 0), -2);
            due("drought " + what, r.x.drought(w[0], w[1], w[2]), -2);
            due("write " + what, r.x.write(w[0], w[1], w[2]), -2);
        }
    }
}
