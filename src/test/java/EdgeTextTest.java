/**
 * The sentences of the document's terms that name an edge of a text (THE TEXT, NEEDS, SCORE, ACTS, the tape), each with
 * the last case that is allowed and the first that is not.
 */
public final class EdgeTextTest {
    private static final Check CHECK = new Check("EdgeTextTest");
    private static final String ITEMS = "e0,-1;p5,5000;a-30000,5;e1,99;m0,0,0,0,1439,1000000,-99,99,63;p0,0;a20000,0;";
    private static final String NEEDS = "v>0;!(w<12&s=3)|h*2-g/4+e=d;((!1<2));m=l|b>x*y-z&1234567=1;";
    private static final String SCORE = "v*12-w/s+h-g*e/d+m-l+b*x-y+z*1234567";
    private static final String ACTS = "r0;s-12;d1234567;p1,63;b0,-5,0000009;";

    /** One of the calls that read the tape. */
    private interface Reader {
        int read(Rig r, String text);
    }

    private static void due(String what, long got, long want) {
        CHECK.due(what, got, want);
    }

    public static void main(String[] args) {
        tapeIsFullWith600();
        endCutsWithinTheTape();
        bytesComeHighestFirst();
        emptyTexts();
        everyWrongByteIsTheFault();
        everyEarlyEndIsTheFault();
        aNumberHasSevenDigits();
        aNumberThatCantBeIsTheFault();
        theFirstFaultCounts();
        numbersOfEvents();
        numbersOfPlaces();
        numbersOfAthletes();
        numbersOfMarks();
        whatIsToldAhead();
        daysTillToday();
        sixEvents();
        eightPlaces();
        sixteenAthletes();
        sixtyMarks();
        allOfATextOrNothing();
        aTextOf600Bytes();
        eightNeeds();
        sixtyThingsInNeeds();
        sixWithinOneAnother();
        aNumberInNeedsHasNoMinus();
        bracketsOpenAndClose();
        comparisonsAtTheSame();
        whatBindsMoreStrongly();
        aFaultLeavesNothingBehind();
        intsThatWrap();
        divisions();
        thingsOfAMark();
        sixtyThingsInAScore();
        scoreIsOneSum();
        pointsHaveBounds();
        thirtyActs();
        actsTakeAnyNumbers();
        actsWithAFaultDoNothing();
        faultOfTheLatest();
        CHECK.finish();
    }

    private static String repeated(String text, int times) {
        StringBuilder all = new StringBuilder();
        for (int i = 0; i < times; i++) {
            all.append(text);
        }
        return all.toString();
    }

    /** One event, place and athlete, and a mark 0 on day 0; TODAY is 0. */
    private static Rig small() {
        Rig r = new Rig();
        due("small", r.text("e1,-1;p0,0;a0,0;m0,0,0,0,0,1,0,0,0;"), 4);
        return r;
    }

    /** A text is read on a fresh object, and its fault must be at a byte, with nothing done but the tape emptied. */
    private static void faultAt(Reader reader, String text, int at) {
        Rig r = small();
        faultAt(r, reader, text, at);
    }

    private static void faultAt(Rig r, Reader reader, String text, int at) {
        String ahead = unmoved(r);
        due("'" + text + "'", reader.read(r, text), -1);
        due("fault of '" + text + "'", r.x.fault(), at);
        due("tape behind '" + text + "'", r.x.is(7), 0);
        CHECK.that("something is done by '" + text + "'", unmoved(r).equals(ahead));
    }

    private static String unmoved(Rig r) {
        r.x.end(0);
        StringBuilder all = new StringBuilder(State.counts(r.x));
        for (int k = 0; k < 3; k++) {
            all.append(' ').append(r.x.points(k)).append(' ').append(r.x.good(k)).append(' ').append(r.x.mark(k, 8));
        }
        return all.toString();
    }

    private static void wellRead(Reader reader, String text, int count) {
        Rig r = small();
        due("'" + text + "'", reader.read(r, text), count);
        due("fault of '" + text + "'", r.x.fault(), -1);
        due("tape behind '" + text + "'", r.x.is(7), 0);
    }

    // ==== the tape

    // feed: "NONE, and none come, if there would be more than 600"
    private static void tapeIsFullWith600() {
        MarkChains x = new MarkChains();
        for (int n = 1; n <= 30; n++) {
            due("feed " + n, x.feed(-1, -1, -1, -1, -1), 20 * n);
        }
        due("feed 620", x.feed(0, 0, 0, 0, 0), -1);
        due("none come", x.is(7), 600);
        due("600 are there", x.end(600), 600);
        due("to 581", x.end(581), 581);
        due("feed 601", x.feed(0, 0, 0, 0, 0), -1);
        due("none come", x.is(7), 581);
        due("to 580", x.end(580), 580);
        due("feed 600", x.feed(0, 0, 0, 0, 0), 600);
        due("a fault of a full tape", x.text() * 10 + x.fault(), -10);
        due("empty again", x.feed(0, 0, 0, 0, 0), 20);
    }

    // end: "NONE, and nothing is done, if it has not so many, or n is below 0"
    private static void endCutsWithinTheTape() {
        MarkChains x = new MarkChains();
        due("end 0 of an empty tape", x.end(0), 0);
        due("end 1 of an empty tape", x.end(1), -1);
        x.feed(0, 0, 0, 0, 0);
        int[] refused = {21, -1, Integer.MAX_VALUE, Integer.MIN_VALUE};
        for (int n : refused) {
            due("end " + n, x.end(n), -1);
            due("nothing is done by end " + n, x.is(7), 20);
        }
        due("all stay", x.end(20), 20);
        due("one less", x.end(19), 19);
        due("no more so many", x.end(20), -1);
        due("nothing is done", x.is(7), 19);
        due("none stay", x.end(0), 0);
        due("empty", x.is(7), 0);
        due("one of none", x.end(1), -1);
    }

    // feed: "the highest of a first"; bytes above 127 are no letters
    private static void bytesComeHighestFirst() {
        MarkChains x = new MarkChains();
        due("feed", x.feed('e' << 24 | '0' << 16 | ',' << 8 | '9', ';' << 24 | 'e' << 16 | '1' << 8 | ',', '-' << 24 | '1' << 16 | ';' << 8 | 'p',
                '1' << 24 | ',' << 16 | '2' << 8 | ';', 'p' << 24 | '3' << 16 | ',' << 8 | '4'), 20);
        due("behind the tape", x.feed(';' << 24, 0, 0, 0, 0), 40);
        due("end", x.end(21), 21);
        due("text", x.text(), 4);
        int[][] told = {{0, 0, 0, 0}, {0, 0, 1, 9}, {0, 1, 0, 1}, {0, 1, 1, -1}, {1, 0, 0, 1}, {1, 0, 1, 2}, {1, 1, 0, 3}, {1, 1, 1, 4}};
        for (int[] t : told) {
            due("told", x.told(t[0], t[1], t[2]), t[3]);
        }
    }

    // needs, score: "by an empty text: none"; an empty text is THE TEXT and ACTS, too
    private static void emptyTexts() {
        Rig r = small();
        due("needs", r.needs("v=2;"), 1);
        due("a score", r.score("v+6"), 2);
        due("not good", r.x.good(0), 0);
        due("points", r.x.points(0), 7);
        due("empty needs", r.needs(""), 0);
        due("well", r.x.fault(), -1);
        due("none", r.x.is(4), 0);
        due("good", r.x.good(0), -1);
        due("empty score", r.score(""), 0);
        due("well", r.x.fault(), -1);
        due("points without one", r.x.points(0), 1);
        due("empty text", r.text(""), 0);
        due("nothing comes", r.x.is(3), 1);
        due("acts", r.acts("d1;r7;"), 1);
        due("ended", r.x.ended(), 1);
        due("empty acts", r.acts(""), 0);
        due("none ended them", r.x.ended(), -1);
        due("no row", r.x.row(0), -1);
        due("well", r.x.fault(), -1);
    }

    // ==== FAULT

    // "the first byte with which no such text goes on"
    private static void everyWrongByteIsTheFault() {
        wrongBytes(Rig::text, ITEMS);
        wrongBytes(Rig::needs, NEEDS);
        wrongBytes(Rig::score, SCORE);
        wrongBytes(Rig::acts, ACTS);
    }

    private static void wrongBytes(Reader reader, String text) {
        char[] wrong = {0, ' ', '~', '.', 127, 128, 255};
        for (int at = 0; at < text.length(); at++) {
            String ahead = text.substring(0, at);
            String behind = text.substring(at + 1);
            char other = wrong[at % wrong.length];
            faultAt(reader, ahead + other + behind, at);
            faultAt(reader, ahead + (char) (text.charAt(at) | 128) + behind, at);
        }
        faultAt(reader, text + "~", text.length());
    }

    // "its length, if it ends too early"
    private static void everyEarlyEndIsTheFault() {
        earlyEnds(Rig::text, ITEMS);
        earlyEnds(Rig::needs, NEEDS);
        earlyEnds(Rig::acts, ACTS);
        for (int length = 1; length <= SCORE.length(); length++) {
            String text = SCORE.substring(0, length);
            if ("+-*/".indexOf(SCORE.charAt(length - 1)) >= 0) {
                faultAt(Rig::score, text, length);
            } else {
                wellRead(Rig::score, text, text.split("[-+*/]").length);
            }
        }
    }

    private static void earlyEnds(Reader reader, String text) {
        for (int length = 1; length < text.length(); length++) {
            if (text.charAt(length - 1) != ';') {
                faultAt(reader, text.substring(0, length), length);
            }
        }
    }

    // "A number: perhaps a -, 1 to 7 digits"; "an 8th digit, too"
    private static void aNumberHasSevenDigits() {
        wellRead(Rig::text, "e0000001,0000099;", 1);
        wellRead(Rig::text, "e-0000000,-0000001;", 1);
        faultAt(Rig::text, "e00000001,0;", 8);
        faultAt(Rig::text, "e0,-00000001;", 11);
        faultAt(Rig::text, "e,0;", 1);
        faultAt(Rig::text, "e-,0;", 2);
        faultAt(Rig::text, "e0,--1;", 4);
        faultAt(Rig::text, "e0,1-;", 4);
        faultAt(Rig::text, "e0,+1;", 3);
        wellRead(Rig::acts, "d0000007;d-0000007;", 1);
        faultAt(Rig::acts, "d00000007;", 8);
        faultAt(Rig::acts, "d-00000007;", 9);
        faultAt(Rig::acts, "d-;", 2);
        faultAt(Rig::acts, "d;", 1);
        wellRead(Rig::needs, "0000001=v;", 1);
        faultAt(Rig::needs, "00000001=v;", 7);
        faultAt(Rig::needs, "v=00000001;", 9);
        wellRead(Rig::score, "0000001", 1);
        faultAt(Rig::score, "00000001", 7);
        faultAt(Rig::score, "v+00000001", 9);
    }

    // "a number that can't be: its first byte (its -), as it ends"
    private static void aNumberThatCantBeIsTheFault() {
        faultAt(Rig::text, "e2,0;", 1);
        faultAt(Rig::text, "e0,0;e1,-2;", 8);
        faultAt(Rig::text, "e-1,0;", 1);
        // seven digits that end, and an eighth with which they don't
        faultAt(Rig::text, "e9999999,0;", 1);
        faultAt(Rig::text, "e99999999,0;", 8);
        faultAt(Rig::text, "e-9999999,0;", 1);
        faultAt(Rig::text, "e-99999999,0;", 9);
        // it may start like one that can be
        wellRead(Rig::text, "p0,5000;", 1);
        faultAt(Rig::text, "p0,50000;", 3);
    }

    // FAULT is the first one
    private static void theFirstFaultCounts() {
        faultAt(Rig::text, "e2,100;", 1);
        faultAt(Rig::text, "e0,100;x", 3);
        faultAt(Rig::text, "x;e2,100;", 0);
        faultAt(Rig::text, "m1,1,1,1,1440,0,100,100,64;", 1);
        faultAt(Rig::text, "m0,1,1,1,1440,0,100,100,64;", 3);
        faultAt(Rig::text, "m0,0,1,1,1440,0,100,100,64;", 5);
        faultAt(Rig::text, "m0,0,0,1,1440,0,100,100,64;", 7);
        faultAt(Rig::text, "m0,0,0,0,1440,0,100,100,64;", 9);
        faultAt(Rig::text, "m0,0,0,0,1439,0,100,100,64;", 14);
        faultAt(Rig::text, "m0,0,0,0,1439,1,100,100,64;", 16);
        faultAt(Rig::text, "m0,0,0,0,1439,1,99,100,64;", 19);
        faultAt(Rig::text, "m0,0,0,0,1439,1,99,99,64;", 22);
        faultAt(Rig::needs, "v<;~", 2);
        faultAt(Rig::score, "v++~", 2);
        faultAt(Rig::acts, "d1;d;~", 4);
    }

    // ==== the numbers of THE TEXT

    private interface Shown {
        int in(MarkChains x);
    }

    /** A number of an item from the lowest to the highest; what one below and one above come to. */
    private static void bounds(String ahead, int lowest, int highest, String behind, Shown shown) {
        for (int number : new int[] {lowest, highest}) {
            Rig r = small();
            String text = ahead + number + behind;
            due("'" + text + "'", r.text(text), 1);
            due("shown of '" + text + "'", shown.in(r.x), number);
        }
        faultAt(Rig::text, ahead + (lowest - 1) + behind, ahead.length());
        faultAt(Rig::text, ahead + (highest + 1) + behind, ahead.length());
    }

    // "BETTER 0 or 1, LIMIT (0 to 99; NONE: -1)"
    private static void numbersOfEvents() {
        bounds("e", 0, 1, ",0;", x -> x.told(0, 1, 0));
        bounds("e1,", -1, 99, ";", x -> x.told(0, 1, 1));
        bounds("e0,", -1, 99, ";", x -> x.told(0, 1, 1));
    }

    // "AREA 0 to 5, HEIGHT 0 to 5000"
    private static void numbersOfPlaces() {
        bounds("p", 0, 5, ",0;", x -> x.told(1, 1, 0));
        bounds("p5,", 0, 5000, ";", x -> x.told(1, 1, 1));
    }

    // "BORN (a DAY, -30000 to 20000), AREA"; BORN may be behind TODAY
    private static void numbersOfAthletes() {
        bounds("a", -30000, 20000, ",0;", x -> x.told(2, 1, 0));
        bounds("a-30000,", 0, 5, ";", x -> x.told(2, 1, 1));
    }

    // "MINUTE (0 to 1439), VALUE (1 to 1000000), WIND (-99 to 99), SHOE (0 to 99), PAPERS (0 to 63)"
    private static void numbersOfMarks() {
        bounds("m0,0,0,0,", 0, 1439, ",1,0,0,0;", x -> x.mark(1, 4));
        bounds("m0,0,0,0,0,", 1, 1000000, ",0,0,0;", x -> x.mark(1, 5));
        bounds("m0,0,0,0,0,1,", -99, 99, ",0,0;", x -> x.mark(1, 6));
        bounds("m0,0,0,0,0,1,0,", 0, 99, ",0;", x -> x.mark(1, 7));
        bounds("m0,0,0,0,0,1,0,0,", 0, 63, ";", x -> x.mark(1, 8));
    }

    // "an EVENT, ATHLETE, PLACE that isn't told ahead"
    private static void whatIsToldAhead() {
        bounds("m", 0, 0, ",0,0,0,0,1,0,0,0;", x -> x.mark(1, 0));
        bounds("m0,", 0, 0, ",0,0,0,1,0,0,0;", x -> x.mark(1, 1));
        bounds("m0,0,", 0, 0, ",0,0,1,0,0,0;", x -> x.mark(1, 2));
        // one that is told in the same text counts ahead of the mark, not behind it
        wellRead(Rig::text, "e0,0;m1,0,0,0,0,1,0,0,0;", 2);
        faultAt(Rig::text, "m1,0,0,0,0,1,0,0,0;e0,0;", 1);
        wellRead(Rig::text, "a0,0;m0,1,0,0,0,1,0,0,0;", 2);
        faultAt(Rig::text, "m0,1,0,0,0,1,0,0,0;a0,0;", 3);
        wellRead(Rig::text, "p0,0;m0,0,1,0,0,1,0,0,0;", 2);
        faultAt(Rig::text, "m0,0,1,0,0,1,0,0,0;p0,0;", 5);
        // one of a text with a fault is not told
        Rig r = small();
        faultAt(r, Rig::text, "e0,0;a0,0;p0,0;?", 15);
        faultAt(r, Rig::text, "m1,0,0,0,0,1,0,0,0;", 1);
        faultAt(r, Rig::text, "m0,1,0,0,0,1,0,0,0;", 3);
        faultAt(r, Rig::text, "m0,0,1,0,0,1,0,0,0;", 5);
        // nor is one that was taken back
        due("told", r.text("e0,0;a0,0;p0,0;"), 3);
        due("taken back", r.x.back(), 1);
        faultAt(r, Rig::text, "m1,0,0,0,0,1,0,0,0;", 1);
        faultAt(r, Rig::text, "m0,1,0,0,0,1,0,0,0;", 3);
        faultAt(r, Rig::text, "m0,0,1,0,0,1,0,0,0;", 5);
        // the last of all
        Rig full = new Rig();
        due("all", full.text(repeated("e0,0;", 6) + repeated("p0,0;", 8) + repeated("a0,0;", 16)), 30);
        faultAt(full, Rig::text, "m6,15,7,0,0,1,0,0,0;", 1);
        faultAt(full, Rig::text, "m5,16,7,0,0,1,0,0,0;", 3);
        faultAt(full, Rig::text, "m5,15,8,0,0,1,0,0,0;", 6);
        due("the last of all", full.text("m5,15,7,0,0,1,0,0,0;"), 1);
    }

    // "DAY (0 to 20000)"; "a DAY above TODAY"
    private static void daysTillToday() {
        int[] todays = {0, 1, 19999, 20000};
        for (int today : todays) {
            Rig r = small();
            if (today > 0) {
                due("days", r.x.days(today), today);
            }
            due("on TODAY " + today, r.text("m0,0,0," + today + ",0,1,0,0,0;"), 1);
            due("its day", r.x.mark(1, 3), today);
            due("on day 0", r.text("m0,0,0,0,0,1,0,0,0;"), 1);
            faultAt(r, Rig::text, "m0,0,0," + (today + 1) + ",0,1,0,0,0;", 7);
            faultAt(r, Rig::text, "m0,0,0,-1,0,1,0,0,0;", 7);
        }
        // days that are taken back are days no more
        Rig r = small();
        due("days", r.x.days(9), 9);
        due("back", r.x.back(), 1);
        faultAt(r, Rig::text, "m0,0,0,9,0,1,0,0,0;", 7);
        // as many as TODAY can have, and BORN ahead of all
        due("days", r.x.days(20000), 20000);
        due("to the end", r.text("a20000,0;m0,1,0,20000,1439,1,0,0,0;"), 2);
        due("age", r.x.mark(1, 9), 0);
    }

    // ==== "one too many: the ITEM's letter"

    private static void tooMany(String item, int sort, int most, int firstCount) {
        Rig r = new Rig();
        due("first ones", r.text("e0,0;p0,0;a0,0;" + repeated(item, firstCount)), 3 + firstCount);
        int more = most - r.x.is(sort);
        for (; more > 25; more -= 25) {
            due("25 more", r.text(repeated(item, 25)), 25);
        }
        // one too many in a text with those that fit
        faultAt(r, Rig::text, repeated(item, more + 1), more * item.length());
        faultAt(r, Rig::text, repeated(item, more) + item.charAt(0), more * item.length());
        due("none of them comes", r.x.is(sort), most - more);
        due("full", r.text(repeated(item, more)), more);
        due("full", r.x.is(sort), most);
        faultAt(r, Rig::text, item, 0);
        faultAt(r, Rig::text, item.substring(0, 1), 0);
        due("still full", r.x.is(sort), most);
        due("others still come", r.text(sort == 1 ? "a0,0;" : "p0,0;"), 1);
        int deeds = r.x.is(6);
        due("taken back", r.x.back(), deeds - 1);
        due("taken back", r.x.back(), deeds - 2);
        due("not full", r.x.is(sort), most - more);
        due("full again", r.text(repeated(item, more)), more);
        faultAt(r, Rig::text, item, 0);
    }

    private static void sixEvents() {
        tooMany("e1,7;", 0, 6, 2);
    }

    private static void eightPlaces() {
        tooMany("p2,7;", 1, 8, 4);
    }

    private static void sixteenAthletes() {
        tooMany("a-5,1;", 2, 16, 9);
    }

    private static void sixtyMarks() {
        tooMany("m0,0,0,0,0,1,0,0,0;", 3, 60, 20);
    }

    // "All the text comes, or nothing of it"
    private static void allOfATextOrNothing() {
        Rig r = small();
        due("ratify", r.x.ratify(0), 0);
        String ahead = State.of(r.x);
        due("a fault at its end", r.text(ITEMS + "e0,1,"), -1);
        due("fault", r.x.fault(), ITEMS.length() + 4);
        due("the same but for the fault", r.text("?") * 10 + r.x.fault(), -10);
        due("well", r.acts(""), 0);
        CHECK.that("something came", State.of(r.x).equals(ahead));
        // numbers of marks that did not come are not left behind
        due("a chain", r.x.chain(0, 0, 0, -1), 1);
        due("one that comes then", r.text("m0,0,0,0,5,9,1,2,3;"), 1);
        int[] wanted = {0, 0, 0, 0, 5, 9, 1, 2, 3, 0, -1, -1};
        for (int what = 0; what < wanted.length; what++) {
            due("mark 1 " + what, r.x.mark(1, what), wanted[what]);
        }
    }

    // the longest texts that a tape can have
    private static void aTextOf600Bytes() {
        String items = repeated("m0,0,0,0,0,1,0,0,0;", 30) + "m0000000,000000,0,0,0,1,0,0,0;";
        due("length", items.length(), 600);
        wellRead(Rig::text, items, 31);
        faultAt(Rig::text, items.substring(0, 599) + ",", 599);
        String needs = repeated("((((((0000001=1))))))&", 26) + "((((((0000001=0000001))))));";
        due("length", needs.length(), 600);
        wellRead(Rig::needs, needs, 1);
        faultAt(Rig::needs, needs.substring(0, 599) + "~", 599);
        String acts = repeated("b-0000000,-0000001,-0000001;", 20) + repeated("d01;", 10);
        due("length", acts.length(), 600);
        wellRead(Rig::acts, acts, 30);
        faultAt(Rig::acts, acts.substring(0, 599) + ",", 599);
    }

    // ==== NEEDS

    // "{ COND ; }, 8 at most"; "a 9th COND: its first byte"
    private static void eightNeeds() {
        wellRead(Rig::needs, repeated("v>0;", 7), 7);
        wellRead(Rig::needs, repeated("v>0;", 8), 8);
        String[] ninth = {"v>0;", "1=1;", "(v>0);", "!v>0;", ";", "~", "v"};
        for (String cond : ninth) {
            faultAt(Rig::needs, repeated("v>0;", 8) + cond, 32);
        }
        Rig r = small();
        due("the eighth fails", r.needs(repeated("v>0;", 7) + "v>1;"), 8);
        due("the eighth", r.x.good(0), 7);
        due("all of eight", r.needs(repeated("v>0;", 8)), 8);
        due("all hold", r.x.good(0), -1);
        due("how many", r.x.is(4), 8);
        faultAt(r, Rig::needs, repeated("v>1;", 9), 32);
        due("they stay", r.x.is(4), 8);
        due("they stay", r.x.good(0), -1);
        due("the first of two", r.needs("v>1;v>2;"), 2);
        due("the first of two", r.x.good(0), 0);
        faultAt(r, Rig::needs, "v>0;v", 5);
        due("they stay", r.x.is(4), 2);
        due("they stay", r.x.good(0), 0);
    }

    // "60 THINGS in all"; "a 61st THING: its first byte"
    private static void sixtyThingsInNeeds() {
        String twenty = "1" + repeated("+1", 18) + "=19;";
        String sixty = repeated(twenty, 3);
        wellRead(Rig::needs, sixty, 3);
        faultAt(Rig::needs, sixty + "v>0;", sixty.length());
        faultAt(Rig::needs, sixty + "1234567>0;", sixty.length());
        faultAt(Rig::needs, sixty + "(!(v>0));", sixty.length() + 3);
        wellRead(Rig::needs, "v" + repeated("*1", 58) + "=1;", 1);
        faultAt(Rig::needs, "v" + repeated("*1", 59) + "=1;", 120);
        faultAt(Rig::needs, "1=v" + repeated("-1", 59) + ";", 120);
        faultAt(Rig::needs, "1=1" + repeated("&v>0", 29) + "|v>0;", 120);
        wellRead(Rig::needs, "1=1" + repeated("&v>0", 29) + ";", 1);
        // each text has its own sixty
        Rig r = small();
        due("sixty", r.needs(sixty), 3);
        due("sixty again", r.needs(sixty), 3);
        due("a score of its own", r.score("v" + repeated("+1", 59)), 60);
        due("too many", r.needs(sixty + "v"), -1);
        due("sixty again", r.needs(sixty), 3);
        due("good", r.x.good(0), -1);
        due("points", r.x.points(0), 60);
    }

    // "6 of ( and ! within one another"; "a 7th ( or !: its first byte"
    private static void sixWithinOneAnother() {
        wellRead(Rig::needs, "((((((v=1))))));", 1);
        faultAt(Rig::needs, "(((((((v=1)))))));", 6);
        wellRead(Rig::needs, "!!!!!!v=1;", 1);
        faultAt(Rig::needs, "!!!!!!!v=1;", 6);
        wellRead(Rig::needs, "!(!(!(v=1)));", 1);
        faultAt(Rig::needs, "!(!(!(!v=1)));", 6);
        faultAt(Rig::needs, "(!(!(!(v=1))));", 6);
        // beside one another they don't add up
        wellRead(Rig::needs, "((((((v=1))))))&((((((v=1))))))|!!!!!!v=1&!!!!!!v=1;", 1);
        wellRead(Rig::needs, "((((((v=1))))));!!!!!!v=1;((((((v=1))))));", 3);
        wellRead(Rig::needs, "(!!!!!v=1&!!!!!v=1|!!!!!v=1);", 1);
        faultAt(Rig::needs, "(!!!!!v=1&!!!!!!v=1);", 15);
        wellRead(Rig::needs, "!!!(v=1&!(v=1)&!(v=1));", 1);
        faultAt(Rig::needs, "!!!(v=1&!!(v=1));", 10);
        wellRead(Rig::needs, "!(v=1)&!(!(!(v=1)));", 1);
        faultAt(Rig::needs, "(v=1)|(!(!(!!v=1)));", 12);
        // what they come to at the depth that is allowed
        holds("!!!!!!v=1", true);
        holds("!!!!!v=1", false);
        holds("!(!(!(v=1)))", false);
        holds("((((((v=1))))))", true);
    }

    // THING: "a NUMBER (1 to 7 digits)", without a -
    private static void aNumberInNeedsHasNoMinus() {
        faultAt(Rig::needs, "-1<v;", 0);
        faultAt(Rig::needs, "v>-1;", 2);
        faultAt(Rig::needs, "v*-1<0;", 2);
        faultAt(Rig::score, "-1", 0);
        faultAt(Rig::score, "v--1", 2);
        holds("0-1<v", true);
    }

    // TEST: "( COND )" ; a bracket that is not closed, not open, empty, or about a SUM
    private static void bracketsOpenAndClose() {
        wellRead(Rig::needs, "(v=1);", 1);
        faultAt(Rig::needs, "(v=1;", 4);
        faultAt(Rig::needs, "((v=1);", 6);
        faultAt(Rig::needs, "v=1);", 3);
        faultAt(Rig::needs, "(v=1));", 5);
        faultAt(Rig::needs, "v=1;v=1);", 7);
        faultAt(Rig::needs, "();", 1);
        faultAt(Rig::needs, "(v);", 2);
        faultAt(Rig::needs, "(v+1);", 4);
        faultAt(Rig::needs, "(v=1)+1=2;", 5);
        faultAt(Rig::needs, "(v=1)=1;", 5);
        faultAt(Rig::needs, "(v=1)(v=1);", 5);
        faultAt(Rig::needs, "(v=1)v=1;", 5);
        faultAt(Rig::needs, "(v=1)!v=1;", 5);
        faultAt(Rig::needs, "v=(1);", 2);
        faultAt(Rig::needs, "v=!1;", 2);
        // one comparison, no more and no less
        faultAt(Rig::needs, "v;", 1);
        faultAt(Rig::needs, "v+1;", 3);
        faultAt(Rig::needs, "v=1=1;", 3);
        faultAt(Rig::needs, "v<1>1;", 3);
        faultAt(Rig::needs, "v==1;", 2);
        faultAt(Rig::needs, "v<=1;", 2);
        faultAt(Rig::needs, "v&1=1;", 1);
        faultAt(Rig::needs, "v=1&;", 4);
        faultAt(Rig::needs, "v=1&&v=1;", 4);
        faultAt(Rig::needs, "v=1||v=1;", 4);
        faultAt(Rig::needs, "&v=1;", 0);
        faultAt(Rig::needs, ";", 0);
        faultAt(Rig::needs, "v=1;;", 4);
        wellRead(Rig::needs, "v=1&v<1|v>1;", 1);
    }

    // "one of < > =", with what is less by one, the same, more by one
    private static void comparisonsAtTheSame() {
        boolean[][] wanted = {{true, false, false}, {false, false, true}, {false, true, false}};
        for (int sign = 0; sign < 3; sign++) {
            for (int left = 4; left <= 6; left++) {
                holds(left + "<>=".substring(sign, sign + 1) + "5", wanted[sign][left - 4]);
            }
        }
        holds("0-1<0", true);
        holds("0<0", false);
        holds("0=0", true);
        // each that holds is as much as another
        holds("1<2&2>1", true);
        holds("2>1&1=1", true);
        holds("1=1&1<2", true);
        holds("1<2&!1=2", true);
        holds("2>1&!1=2", true);
        holds("!1=2&1=1", true);
        holds("!!1=1&!1=2", true);
        holds("1=1&1=2", false);
        holds("1=2&1=1", false);
        holds("1=2|1=1", true);
        holds("1=1|1=2", true);
        holds("1=2|2=1", false);
    }

    // COND of BOTHs of TESTs; SUM of PRODUCTs of THINGs
    private static void whatBindsMoreStrongly() {
        holds("1=1|1=1&1=2", true);
        holds("1=2&1=1|1=1", true);
        holds("1=2&(1=1|1=1)", false);
        holds("!1=2|1=1", true);
        holds("!(1=2|1=1)", false);
        holds("!1=1&1=2", false);
        holds("!(1=1&1=2)", true);
        holds("!1=1|1=1", true);
        holds("2+3*4=14", true);
        holds("2*3+4=10", true);
        holds("9-4-3=2", true);
        holds("9-4+3=8", true);
        holds("9-8/4=7", true);
        holds("48/4/2=6", true);
        holds("48/4*2=24", true);
        holds("5*3/2=7", true);
        holds("14=2+3*4", true);
        holds("2=9-4-3", true);
    }

    // what a text with a FAULT had is of no weight for the next one
    private static void aFaultLeavesNothingBehind() {
        String[] faults = {"((((((v=1", "!!!!!!v=1", "(((", "!!!", "v=1+", "v=1&(!v=1|", "v=1;v=1;v=1;v=1;v=1;v=1;v=1;v=1;v", "1" + repeated("+1", 60)};
        for (String fault : faults) {
            Rig r = small();
            due("a fault", r.needs(fault), -1);
            faultAt(r, Rig::needs, "v=1);", 3);
            due("six deep", r.needs("((((((v=1))))));!!!!!!v=1;"), 2);
            due("good", r.x.good(0), -1);
            due("a fault", r.needs(fault), -1);
            due("a score", r.score("v" + repeated("+v", 59)), 60);
            due("points", r.x.points(0), 60);
            due("a fault", r.needs(fault), -1);
            due("needs", r.needs(repeated("v=1;", 7) + "v=2;"), 8);
            due("the eighth", r.x.good(0), 7);
        }
        // nor is a text that was well, however often
        Rig r = small();
        for (int turn = 0; turn < 12; turn++) {
            due("sixty things", r.needs("v" + repeated("+1", 58) + "=" + (58 + turn % 2) + ";"), 1);
            due("good", r.x.good(0), turn % 2 == 1 ? -1 : 0);
        }
        faultAt(r, Rig::score, "v+v*v-", 6);
        due("a score", r.score("7"), 1);
        due("points", r.x.points(0), 7);
        // marks that did not come, ahead of those that are there
        Rig s = small();
        due("days", s.x.days(9), 9);
        due("marks", s.text("m0,0,0,5,0,5,0,0,0;m0,0,0,3,0,6,0,0,0;"), 2);
        due("ratify", s.acts("r0;r1;r2;"), 3);
        faultAt(s, Rig::text, "m0,0,0,0,0,9,0,0,0;m0,0,0,4,0,9,0,0,0;m0,0,0,9,0,9,0,0,0;m0,0,0,2,0,9,0,0,0;?", 76);
        int[] chain = {0, 2};
        due("the chain", s.x.chain(0, 0, 9, -1), 2);
        for (int i = 0; i < 2; i++) {
            due("the chain at " + i, s.x.chain(0, 0, 9, i), chain[i]);
        }
        due("one more", s.text("m0,0,0,4,0,7,0,0,0;"), 1);
        due("ratify", s.x.ratify(3), 9);
        due("the chain", s.x.chain(0, 0, 9, -1), 3);
        due("the last", s.x.chain(0, 0, 9, 2), 3);
    }

    /** A need of a mark with VALUE 1, WIND -1, SHOE 0, LIMIT NONE. */
    private static void holds(String need, boolean wanted) {
        Rig r = new Rig();
        due("mark", r.text("e1,-1;p0,0;a0,0;m0,0,0,0,0,1,-1,0,0;"), 4);
        due("needs '" + need + "'", r.needs(need + ";"), 1);
        due("good by '" + need + "'", r.x.good(0), wanted ? -1 : 0);
    }

    // "ints that wrap"
    private static void intsThatWrap() {
        String most = "9999999*214+7483861"; // 2147483647
        String least = "0-9999999*214-7483861-1"; // -2147483648
        holds(most + ">0", true);
        holds(most + "+1<0", true);
        holds(most + "+1=" + least, true);
        holds(least + "<0", true);
        holds(least + "-1>0", true);
        holds(least + "-1=" + most, true);
        holds("65536*32767>0", true);
        holds("65536*32768<0", true);
        holds("65536*32768=" + least, true);
        holds("65536*65535=0-65536", true);
        holds("65536*65536=0", true);
        holds("9999999*9999999=9999999*25+6447257", false);
        holds("9999999*9999999=9999999*25+6447258", true);
        // a comparison does not wrap
        holds(least + "<1", true);
        holds(least + "<" + most, true);
        holds(most + ">" + least, true);
        holds(most + "<" + least, false);
        holds(most + "=" + least, false);
        // the least by -1 wraps, too
        holds("65536*32768/w=" + least, true);
        holds("65536*32768/l<0", true);
        holds("65536*32768*w=" + least, true);
        Rig r = small();
        due("score", r.score(most), 3);
        due("points of the most", r.x.points(0), 1000000);
        due("score", r.score(most + "+1"), 4);
        due("points of what wraps", r.x.points(0), 0);
        due("score", r.score(least + "-1"), 6);
        due("points of what wraps", r.x.points(0), 1000000);
    }

    // "/ towards 0, by 0: 0"
    private static void divisions() {
        holds("7/2=3", true);
        holds("7/8=0", true);
        holds("7*w/2=0-3", true);
        holds("7*w/8=0", true);
        holds("7/w=0-7", true);
        holds("8*w/w=8", true);
        holds("9*w/2*w=4", true);
        holds("7/0=0", true);
        holds("0/0=0", true);
        holds("w/0=0", true);
        holds("65536*32768/0=0", true);
        holds("7/s=0", true);
        holds("7/0*5=0", true);
        holds("7/0+5=5", true);
        holds("7/0/0=0", true);
        holds("1/2=0", true);
        holds("0/5=0", true);
        Rig r = small();
        due("score", r.score("7/0+5"), 3);
        due("points", r.x.points(0), 5);
        due("score", r.score("v/e+5"), 3);
        due("points", r.x.points(0), 5);
    }

    private static void thing(Rig r, int k, String letter, int wanted) {
        due("needs", r.needs(letter + (wanted < 0 ? "=0-" + -wanted : "=" + wanted) + ";"), 1);
        due(letter + " of mark " + k, r.x.good(k), -1);
    }

    // THINGS of a MARK, at the ends of their numbers; "x to z PAPERS 0 to 2 (1, 0)"; "l LIMIT (-1: NONE)"
    private static void thingsOfAMark() {
        Rig r = new Rig();
        due("told", r.text("e0,-1;e1,99;p0,0;p5,5000;a-30000,0;a20000,5;"), 6);
        due("days", r.x.days(20000), 20000);
        due("marks", r.text("m0,1,0,0,0,1,-99,0,56;m1,0,1,20000,1439,1000000,99,99,7;m0,0,0,0,0,1,0,0,2;"), 3);
        String letters = "vwshgedmlbxyz";
        int[] first = {1, -99, 0, 0, -54, 0, 0, 0, -1, 0, 0, 0, 0};
        int[] second = {1000000, 99, 99, 5000, 136, 1, 20000, 1439, 99, 1, 1, 1, 1};
        for (int i = 0; i < letters.length(); i++) {
            thing(r, 0, letters.substring(i, i + 1), first[i]);
            thing(r, 1, letters.substring(i, i + 1), second[i]);
        }
        due("one paper of three", r.needs("x=0&y=1&z=0;"), 1);
        due("one paper of three", r.x.good(2), -1);
        for (char letter = 0; letter < 256; letter++) {
            if (letters.indexOf(letter) < 0 && (letter < '0' || letter > '9')) {
                faultAt(Rig::score, "v+" + letter, 2);
            }
        }
    }

    // ==== SCORE

    // "60 THINGS"
    private static void sixtyThingsInAScore() {
        String sixty = "0000001" + repeated("+0000001", 59);
        wellRead(Rig::score, sixty, 60);
        faultAt(Rig::score, sixty + "+0000001", sixty.length() + 1);
        faultAt(Rig::score, sixty + "*v", sixty.length() + 1);
        faultAt(Rig::score, sixty + "-~", sixty.length() + 1);
        wellRead(Rig::score, "v", 1);
        Rig r = small();
        due("sixty", r.score(sixty), 60);
        due("points", r.x.points(0), 60);
        faultAt(r, Rig::score, sixty + "+v", sixty.length() + 1);
        due("it stays", r.x.points(0), 60);
        faultAt(r, Rig::score, "v+", 2);
        due("it stays", r.x.points(0), 60);
    }

    // "one SUM as above": no ;, no comparison, no bracket
    private static void scoreIsOneSum() {
        String[] behind = {";", "<1", ">1", "=1", "&v", "|v", ")", "(", "!", "v", "1"};
        for (String text : behind) {
            faultAt(Rig::score, "v" + text, 1);
        }
        String[] ahead = {";", "<", "=", "(v)", "!v", "+v", "-v", "*v", "/v", ")"};
        for (String text : ahead) {
            faultAt(Rig::score, text, 0);
        }
    }

    private static void pointsBy(String score, int points) {
        Rig r = small();
        due("score " + score, r.score(score), score.split("[-+*/]").length);
        due("points by " + score, r.x.points(0), points);
    }

    // POINTS: "0 at least, 1000000 at most"; "without one VALUE, or where less is better 1000000 less VALUE"
    private static void pointsHaveBounds() {
        pointsBy("1", 1);
        pointsBy("0", 0);
        pointsBy("0-1", 0);
        pointsBy("0-9999999", 0);
        pointsBy("999999", 999999);
        pointsBy("1000000", 1000000);
        pointsBy("1000001", 1000000);
        pointsBy("9999999", 1000000);
        Rig r = new Rig();
        due("marks", r.text("e0,0;e1,0;p0,0;a0,0;m0,0,0,0,0,1,0,0,0;m0,0,0,0,0,1000000,0,0,0;m1,0,0,0,0,1,0,0,0;m1,0,0,0,0,1000000,0,0,0;"), 8);
        int[] wanted = {999999, 0, 1, 1000000, -1};
        for (int k = 0; k < wanted.length; k++) {
            due("points of " + k, r.x.points(k), wanted[k]);
        }
    }

    // ==== ACTS

    // "30 at most"; "a 31st ACT: its first byte"
    private static void thirtyActs() {
        wellRead(Rig::acts, "d1;", 1);
        wellRead(Rig::acts, repeated("d1;", 29), 29);
        wellRead(Rig::acts, repeated("d1;", 30), 30);
        String[] more = {"d1;", "d", "~", ";"};
        for (String act : more) {
            faultAt(Rig::acts, repeated("d1;", 30) + act, 90);
        }
        Rig r = small();
        due("thirty", r.acts(repeated("d1;", 30)), 30);
        due("today", r.x.is(5), 30);
        due("the first row", r.x.row(0), 1);
        due("the last row", r.x.row(29), 30);
        due("no row behind it", r.x.row(30), -1);
        due("no row ahead", r.x.row(-1), -1);
        due("no such row", r.x.row(Integer.MAX_VALUE), -1);
        due("no such row", r.x.row(Integer.MIN_VALUE), -1);
        due("the last of thirty ends them", r.acts(repeated("d1;", 29) + "d0;"), 29);
        due("the last of thirty ends them", r.x.ended(), 29);
        due("its row", r.x.row(28), 59);
        due("no row of it", r.x.row(29), -1);
    }

    private static void actsDone(String acts, int done, int ended) {
        Rig r = small();
        due("acts " + acts, r.acts(acts), done);
        due("ended " + acts, r.x.ended(), ended);
        due("well " + acts, r.x.fault(), -1);
    }

    // "numbers as in THE TEXT, any"; "till one tells less than 0"
    private static void actsTakeAnyNumbers() {
        String[] ends = {"r1", "r-1", "r9999999", "r-9999999", "s1", "s-1", "s9999999", "d0", "d-1", "d20001", "d9999999", "d-9999999",
            "p1,0", "p-1,0", "p0,64", "p0,-1", "p0,9999999", "b1,0,0", "b-1,0,0", "b0,1,0", "b0,9999999,-9999999"};
        for (String act : ends) {
            actsDone(act + ";d1;", 0, 0);
            actsDone("d1;" + act + ";", 1, 1);
        }
        String[] goOn = {"r0", "r-0", "s0", "d1", "d20000", "p0,0", "p0,63", "b0,0,0", "b0,1,1", "b0,-9999999,9999999"};
        for (String act : goOn) {
            actsDone(act + ";d1;", 2, -1);
        }
        // what tells 0 goes on, what tells less ends it, nothing behind it is done
        Rig r = small();
        due("told", r.acts("r0;b0,1,9;p0,0;r0;d5;s0;"), 3);
        due("ended", r.x.ended(), 3);
        due("rows", r.x.row(0) + r.x.row(1) + r.x.row(2), 0);
        due("no day went by", r.x.is(5), 0);
        due("none is struck", r.x.is(9), 0);
        due("deeds", r.x.is(6), 4);
    }

    // acts: "NONE: a FAULT (nothing is done)"; ended, row: "the latest acts() that was not NONE"
    private static void actsWithAFaultDoNothing() {
        Rig r = small();
        due("acts", r.acts("d3;p0,5;d0;"), 2);
        String[] faults = {"d1;r0;s0;p0,63;b0,0,0;x", "d1;r0", "r0;d", "s0;d1,1;", "p0,63;p0;", "b0,0,0;b0,0;"};
        int[] at = {22, 5, 4, 5, 8, 11};
        for (int i = 0; i < faults.length; i++) {
            faultAt(r, Rig::acts, faults[i], at[i]);
            due("ended stays", r.x.ended(), 2);
            due("row stays", r.x.row(0), 3);
            due("row stays", r.x.row(1), 5);
        }
        Rig none = new Rig();
        due("a fault ahead of any", none.acts("d1"), -1);
        due("ended", none.x.ended(), -1);
        due("row", none.x.row(0), -1);
    }

    // ==== fault

    // "of the latest text(), needs(), score(), acts(); NONE, if that was well, ahead of any"
    private static void faultOfTheLatest() {
        Reader[] readers = {Rig::text, Rig::needs, Rig::score, Rig::acts};
        for (Reader one : readers) {
            for (Reader other : readers) {
                Rig r = new Rig();
                due("ahead of any", r.x.fault(), -1);
                due("a fault", one.read(r, "~"), -1);
                due("at 0", r.x.fault(), 0);
                due("well", other.read(r, ""), 0);
                due("well", r.x.fault(), -1);
                due("a fault", other.read(r, other == readers[2] ? "v+" : other == readers[1] ? "v=" : "d1"), -1);
                due("at its place", r.x.fault(), other == readers[0] ? 0 : 2);
                r.tape("abc");
                due("refused", r.x.days(0) + r.x.ratify(0) + r.x.end(601), -4);
                due("it stays", r.x.fault(), other == readers[0] ? 0 : 2);
            }
        }
    }
}
