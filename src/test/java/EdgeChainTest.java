/**
 * The sentences of the document's terms that name an edge of what follows from the marks (days as known, scopes, chains,
 * lists, meetings, seasons and their like), each on both sides of the edge.
 */
public final class EdgeChainTest {
    private static final Check CHECK = new Check("EdgeChainTest");

    private static void due(String what, long got, long want) {
        CHECK.due(what, got, want);
    }

    public static void main(String[] args) {
        ageIsCutTowardsZero();
        windAndLimit();
        goodTellsTheFirst();
        standsFromTheDayOn();
        struckOnTheDayItWasRatified();
        scopesOfAreasAndPlaces();
        scopesOfAges();
        chainTakesWhatIsNotWorse();
        chainByDayMinuteNumber();
        recordAndNone();
        holdersAtTheEnd();
        tiesAreNeighbours();
        heldFromItsDayTillTheOther();
        heldEachDayOnce();
        stoodTheLongest();
        newAndGone();
        listOfTheBest();
        rankOrNone();
        wishedWithinValues();
        wouldBeInAChain();
        championAboveZero();
        tableOfAnArea();
        placedInAMeeting();
        duelOfTheBest();
        progressAndSteps();
        sinceADay();
        withoutAMark();
        personalMustBeBetter();
        seasonsOf365Days();
        atAMoment();
        missingPapers();
        standsInScopes();
        holdingInSomeScope();
        droughtTillTheDay();
        writtenTill400();
        octetsOfTheLatest();
        CHECK.finish();
    }

    /** Events 0 (less is better), 1 (more is); places 0 to 7; athletes 0 to 5 of areas 0 to 5, all born on day 0. */
    private static Rig rig(int today) {
        Rig r = new Rig();
        due("rig", r.text("e0,-1;e1,-1;p0,0;p0,0;p0,0;p0,0;p0,0;p0,0;p0,0;p0,0;a0,0;a0,1;a0,2;a0,3;a0,4;a0,5;"), 16);
        if (today > 0) {
            due("rig", r.x.days(today), today);
        }
        return r;
    }

    private static String mark(int event, int athlete, int day, int minute, int value) {
        return "m" + event + "," + athlete + ",0," + day + "," + minute + "," + value + ",0,0,0;";
    }

    /** A mark at place 0, ratified on TODAY. */
    private static int add(Rig r, int event, int athlete, int day, int minute, int value) {
        due("add", r.text(mark(event, athlete, day, minute, value)), 1);
        int k = r.x.is(3) - 1;
        due("ratify", r.x.ratify(k), r.x.is(5));
        return k;
    }

    private static void chainIs(Rig r, int event, int scope, int day, int... marks) {
        due("how many", r.x.chain(event, scope, day, -1), marks.length);
        for (int i = 0; i < marks.length; i++) {
            due("chain at " + i, r.x.chain(event, scope, day, i), marks[i]);
        }
        due("behind the chain", r.x.chain(event, scope, day, marks.length), -2);
    }

    // ==== marks by themselves

    // "AGE of a MARK: its DAY less BORN, by 365 (cut towards 0)"
    private static void ageIsCutTowardsZero() {
        int[][] ages = {{0, 0, 0}, {0, 364, 0}, {0, 365, 1}, {0, 729, 1}, {0, 730, 2}, {364, 0, 0}, {365, 0, -1}, {729, 0, -1}, {730, 0, -2},
            {-30000, 0, 82}, {-30000, 20000, 136}, {20000, 0, -54}, {20000, 20000, 0}, {-1, 364, 1}, {1, 365, 0}};
        for (int[] age : ages) {
            Rig r = new Rig();
            due("days", r.x.days(20000), 20000);
            due("told", r.text("e0,-1;p0,0;a" + age[0] + ",0;" + mark(0, 0, age[1], 0, 1)), 4);
            due("age of born " + age[0] + " on " + age[1], r.x.mark(0, 9), age[2]);
        }
    }

    // GOOD: "its WIND is not above LIMIT (where there is one)"
    private static void windAndLimit() {
        int[][] winds = {{-1, 99, -1}, {-1, -99, -1}, {0, 0, -1}, {0, 1, 8}, {0, -1, -1}, {20, 20, -1}, {20, 21, 8}, {20, -99, -1}, {98, 99, 8}, {99, 99, -1}};
        for (int[] wind : winds) {
            Rig r = new Rig();
            due("told", r.text("e0," + wind[0] + ";p0,0;a0,0;m0,0,0,0,0,1," + wind[1] + ",0,0;"), 4);
            String what = "limit " + wind[0] + ", wind " + wind[1];
            due(what, r.x.good(0), wind[2]);
            due(what + " are good", r.x.is(11), wind[2] == 8 ? 0 : 1);
            due(what + " missing", r.x.missing(0), wind[2] == 8 ? -1 : 0);
            due(what + " ratified", r.x.ratify(0), wind[2] == 8 ? -5 : 0);
        }
    }

    // good: "the first NEED that does not hold (0 on), 8: its WIND alone"
    private static void goodTellsTheFirst() {
        Rig r = new Rig();
        due("told", r.text("e0,5;p0,0;a0,0;m0,0,0,0,0,1,5,0,0;m0,0,0,0,0,1,6,0,0;"), 5);
        for (int failing = 0; failing < 8; failing++) {
            StringBuilder needs = new StringBuilder();
            for (int i = 0; i < 8; i++) {
                needs.append(i >= failing && i % 2 == failing % 2 ? "v=2;" : "v=1;");
            }
            due("needs", r.needs(needs.toString()), 8);
            due("the first", r.x.good(0), failing);
            due("ahead of the wind", r.x.good(1), failing);
        }
        due("eight that hold", r.needs("v=1;v=1;v=1;v=1;v=1;v=1;v=1;v=1;"), 8);
        due("all hold", r.x.good(0), -1);
        due("the wind alone", r.x.good(1), 8);
        due("no needs", r.needs(""), 0);
        due("the wind alone", r.x.good(1), 8);
    }

    // ==== AS KNOWN

    // "RATIFIED on k or ahead of it, and is not STRUCK OUT on k or ahead"
    private static void standsFromTheDayOn() {
        Rig r = rig(10);
        due("mark", r.text(mark(1, 1, 5, 0, 7)), 1);
        due("none stands", r.x.is(8), 0);
        due("ratify", r.x.ratify(0), 10);
        due("it stands on that day", r.x.is(8), 1);
        due("days", r.x.days(20), 30);
        due("strike", r.x.strike(0), 30);
        due("it does not on that day", r.x.is(8), 0);
        due("days", r.x.days(5), 35);
        int[][] days = {{0, 0}, {5, 0}, {9, 0}, {10, 1}, {11, 1}, {29, 1}, {30, 0}, {31, 0}, {20000, 0}};
        for (int[] day : days) {
            int d = day[0];
            boolean in = day[1] == 1;
            String what = " on " + d;
            due("chain" + what, r.x.chain(1, 0, d, -1), day[1]);
            due("record" + what, r.x.record(1, 0, d), in ? 7 : -1);
            due("holders" + what, r.x.holders(1, 0, d), in ? 2 : 0);
            due("held" + what, r.x.held(1, 0, 1, d), in ? d - 5 : 0);
            due("stood" + what, r.x.stood(1, 0, d, 0), in ? d - 5 : 0);
            due("stood" + what, r.x.stood(1, 0, d, 1), in ? 0 : -1);
            due("list" + what, r.x.list(1, 0, d, -1), day[1]);
            due("wished" + what, r.x.wished(1, 0, d), in ? 8 : -1);
            due("drought" + what, r.x.drought(1, 0, d), in ? d - 5 : 0);
            due("write" + what, r.x.write(1, 0, d), in ? 3 : 0);
            due("champion" + what, r.x.champion(d, 0), in ? 1 : -1);
            due("points" + what, r.x.champion(d, 1), in ? 7 : 0);
            due("table" + what, r.x.table(1, d), in ? 7 : 0);
            due("new" + what, r.x.altered(32, 9, d, 0), day[1]);
            due("gone" + what, r.x.altered(32, 10, d, 2), 1 - day[1]);
        }
        due("once", r.x.since(0, 0), 10);
        due("personal, today", r.x.personal(1, 1, -1), 0);
        due("season, today", r.x.season(1, 0, -1), 0);
        due("at, today", r.x.at(1, 0, 20, 0), -1);
        due("ratified still", r.x.is(10), 1);
        due("struck out", r.x.is(9), 1);
    }

    // on one day both: it stands on none
    private static void struckOnTheDayItWasRatified() {
        Rig r = rig(10);
        int k = add(r, 0, 0, 10, 0, 5);
        due("it stands", r.x.is(8), 1);
        due("strike", r.x.strike(k), 10);
        due("not on the day", r.x.chain(0, 0, 10, -1), 0);
        due("not ahead", r.x.chain(0, 0, 9, -1), 0);
        due("never", r.x.since(k, 0), -1);
        due("back", r.x.back(), 4);
        due("since", r.x.since(k, 0), 10);
        // on the last day, and on the first
        Rig last = rig(20000);
        add(last, 0, 0, 20000, 0, 5);
        due("the last day", last.x.chain(0, 0, 20000, -1), 1);
        due("the day ahead", last.x.chain(0, 0, 19999, -1), 0);
        Rig first = rig(0);
        add(first, 0, 0, 0, 0, 5);
        due("the first day", first.x.chain(0, 0, 0, -1), 1);
        due("since the first day", first.x.since(0, 0), 0);
    }

    // ==== SCOPES

    // "0 all; 1 to 6: ATHLETES of AREA 0 to 5; 7 to 14: at PLACE 0 to 7"
    private static void scopesOfAreasAndPlaces() {
        Rig r = new Rig();
        // areas of places are of no weight
        due("told", r.text("e0,-1;p5,0;p4,0;p3,0;p2,0;p1,0;p0,0;p5,0;p4,0;a0,0;a0,1;a0,2;a0,3;a0,4;a0,5;"), 15);
        StringBuilder marks = new StringBuilder();
        for (int place = 0; place < 8; place++) {
            marks.append("m0,").append(place % 6).append(',').append(place).append(",0,0,1,0,0,0;");
        }
        due("marks", r.text(marks.toString()), 8);
        for (int k = 0; k < 8; k++) {
            for (int scope = 0; scope <= 14; scope++) {
                boolean in = scope == 0 || scope == k % 6 + 1 || scope == k + 7;
                due("mark " + k + " within " + scope, r.x.within(k, scope), in ? 1 : 0);
            }
        }
    }

    // "15, 16, 17: AGE below 18, 20, 23; 18, 19, 20, 21: AGE 35, 40, 45, 50 or more"
    private static void scopesOfAges() {
        int[] bounds = {18, 20, 23, 35, 40, 45, 50};
        for (int i = 0; i < bounds.length; i++) {
            Rig r = rig(20000);
            int day = bounds[i] * 365;
            due("marks", r.text(mark(0, 0, day - 1, 0, 1) + mark(0, 0, day, 0, 1)), 2);
            due("the day ahead", r.x.within(0, 15 + i), i < 3 ? 1 : 0);
            due("the day", r.x.within(1, 15 + i), i < 3 ? 0 : 1);
            for (int j = 0; j < bounds.length; j++) {
                if (j != i) {
                    boolean below = bounds[i] < bounds[j];
                    due("other ages", r.x.within(0, 15 + j), below == j < 3 ? 1 : 0);
                    due("other ages", r.x.within(1, 15 + j), below == j < 3 ? 1 : 0);
                }
            }
        }
        // an age below 0 is below all of them
        Rig r = new Rig();
        due("told", r.text("e0,-1;p0,0;a20000,0;a-30000,0;" + mark(0, 0, 0, 0, 1) + mark(0, 1, 0, 0, 1)), 6);
        for (int scope = 15; scope <= 21; scope++) {
            due("the youngest", r.x.within(0, scope), scope <= 17 ? 1 : 0);
            due("the oldest", r.x.within(1, scope), scope <= 17 ? 0 : 1);
        }
    }

    // ==== THE CHAIN

    // "the first; then each that is not worse than the latest in it"
    private static void chainTakesWhatIsNotWorse() {
        Rig r = rig(100);
        add(r, 0, 0, 1, 0, 50);
        add(r, 0, 1, 2, 0, 51);
        add(r, 0, 2, 3, 0, 50);
        add(r, 0, 3, 4, 0, 49);
        add(r, 0, 4, 5, 0, 50);
        chainIs(r, 0, 0, 100, 0, 2, 3);
        add(r, 1, 0, 1, 0, 50);
        add(r, 1, 1, 2, 0, 49);
        add(r, 1, 2, 3, 0, 50);
        add(r, 1, 3, 4, 0, 51);
        add(r, 1, 4, 5, 0, 50);
        chainIs(r, 1, 0, 100, 5, 7, 8);
        // the worst value of all comes into an empty one, the best one ends all but ties
        Rig ends = rig(100);
        add(ends, 0, 0, 1, 0, 1000000);
        add(ends, 0, 0, 2, 0, 1);
        add(ends, 0, 0, 3, 0, 2);
        add(ends, 0, 0, 4, 0, 1);
        chainIs(ends, 0, 0, 100, 0, 1, 3);
        // a worse one comes in, where the better one is of another scope
        chainIs(r, 0, 2, 100, 1);
        chainIs(r, 0, 5, 100, 4);
        chainIs(r, 0, 6, 100);
    }

    // "by DAY, MINUTE, number"
    private static void chainByDayMinuteNumber() {
        Rig r = rig(100);
        add(r, 0, 0, 10, 1439, 50);
        add(r, 0, 0, 11, 0, 49);
        add(r, 0, 0, 10, 1438, 51);
        add(r, 0, 0, 9, 1439, 52);
        add(r, 0, 0, 10, 1439, 50);
        add(r, 0, 0, 10, 1439, 51);
        chainIs(r, 0, 0, 100, 3, 2, 0, 4, 1);
        // of one moment the lower number is first: the better one of the two keeps the worse one out
        Rig same = rig(100);
        add(same, 0, 0, 10, 5, 50);
        add(same, 0, 0, 10, 5, 51);
        chainIs(same, 0, 0, 100, 0);
        Rig other = rig(100);
        add(other, 0, 0, 10, 5, 51);
        add(other, 0, 0, 10, 5, 50);
        chainIs(other, 0, 0, 100, 0, 1);
    }

    // record: "NONE: no MARKS"; chain: "how many (i NONE)"
    private static void recordAndNone() {
        Rig r = rig(5);
        due("how many", r.x.chain(0, 0, 5, -1), 0);
        due("no marks", r.x.record(0, 0, 5), -1);
        due("a mark", r.text(mark(0, 0, 5, 0, 1000000)), 1);
        due("not ratified", r.x.record(0, 0, 5), -1);
        due("ratify", r.x.ratify(0), 5);
        due("the most", r.x.record(0, 0, 5), 1000000);
        add(r, 0, 0, 5, 1, 1);
        due("the least", r.x.record(0, 0, 5), 1);
        due("of the other event", r.x.record(1, 0, 5), -1);
        due("of another area", r.x.record(0, 2, 5), -1);
    }

    // "HOLDERS: ATHLETES of all MARKS in it with that VALUE at its end"
    private static void holdersAtTheEnd() {
        Rig r = new Rig();
        StringBuilder all = new StringBuilder("e1,-1;p0,0;");
        for (int i = 0; i < 16; i++) {
            all.append("a0,0;");
        }
        due("told", r.text(all.toString()), 18);
        due("none", r.x.holders(0, 0, 0), 0);
        int bits = 0;
        for (int i = 0; i < 16; i++) {
            add(r, 0, i, 0, i, 9);
            bits |= 1 << i;
            due("with " + i, r.x.holders(0, 0, 0), bits);
        }
        due("all of sixteen", r.x.holders(0, 0, 0), 65535);
        add(r, 0, 3, 0, 16, 9);
        due("one twice", r.x.holders(0, 0, 0), 65535);
        add(r, 0, 7, 0, 17, 8);
        due("a worse one", r.x.holders(0, 0, 0), 65535);
        add(r, 0, 15, 0, 18, 10);
        due("a better one", r.x.holders(0, 0, 0), 32768);
    }

    // "A TIE: a MARK in it as good as the one ahead of it"
    private static void tiesAreNeighbours() {
        Rig r = rig(100);
        due("none", r.x.ties(0, 0, 100), 0);
        add(r, 0, 0, 1, 0, 50);
        due("the first", r.x.ties(0, 0, 100), 0);
        add(r, 0, 1, 2, 0, 49);
        due("a better one", r.x.ties(0, 0, 100), 0);
        add(r, 0, 1, 3, 0, 50);
        due("as good as one that is not the latest", r.x.ties(0, 0, 100), 0);
        add(r, 0, 1, 4, 0, 49);
        due("a tie", r.x.ties(0, 0, 100), 1);
        add(r, 0, 1, 5, 0, 49);
        due("two ties", r.x.ties(0, 0, 100), 2);
        add(r, 0, 1, 6, 0, 48);
        due("two still", r.x.ties(0, 0, 100), 2);
        Rig second = rig(100);
        add(second, 0, 0, 1, 0, 50);
        add(second, 0, 0, 2, 0, 50);
        due("the second of two", second.x.ties(0, 0, 100), 1);
    }

    // ==== HELD, STOOD

    // "from its DAY on, that of the other one not"
    private static void heldFromItsDayTillTheOther() {
        Rig r = rig(100);
        due("none", r.x.held(0, 0, 0, 100), 0);
        add(r, 0, 0, 100, 0, 50);
        due("till its day", r.x.held(0, 0, 0, 100), 0);
        due("a day", r.x.held(0, 0, 0, 101), 1);
        due("till the last", r.x.held(0, 0, 0, 20000), 19900);
        due("not his", r.x.held(0, 0, 1, 20000), 0);
        add(r, 0, 1, 100, 1, 49);
        due("on one day", r.x.held(0, 0, 0, 20000), 0);
        due("the other", r.x.held(0, 0, 1, 20000), 19900);
        due("a day goes by", r.x.days(1), 101);
        add(r, 0, 2, 101, 0, 48);
        due("one day alone", r.x.held(0, 0, 1, 20000), 1);
        due("as known ahead", r.x.held(0, 0, 1, 100), 0);
        due("from the first to the last", first().x.held(0, 0, 0, 20000), 20000);
    }

    private static Rig first() {
        Rig r = rig(0);
        add(r, 0, 0, 0, 0, 50);
        return r;
    }

    // "each day once"; ties go on till a better one
    private static void heldEachDayOnce() {
        Rig r = rig(100);
        add(r, 0, 0, 10, 0, 50);
        add(r, 0, 0, 20, 0, 50);
        due("his own tie", r.x.held(0, 0, 0, 100), 90);
        add(r, 0, 1, 30, 0, 50);
        due("a shared one", r.x.held(0, 0, 0, 100), 90);
        due("a shared one", r.x.held(0, 0, 1, 100), 70);
        add(r, 0, 0, 40, 0, 50);
        due("again his own", r.x.held(0, 0, 0, 100), 90);
        add(r, 0, 0, 50, 0, 49);
        due("his own better one", r.x.held(0, 0, 0, 100), 90);
        due("till a better one", r.x.held(0, 0, 1, 100), 20);
        add(r, 0, 1, 60, 0, 48);
        due("no more", r.x.held(0, 0, 0, 100), 50);
        due("again", r.x.held(0, 0, 1, 100), 60);
    }

    // "the longest; its first MARK (of like ones the first)"; "NONE: no MARKS"
    private static void stoodTheLongest() {
        Rig r = rig(100);
        due("none", r.x.stood(0, 0, 100, 0), 0);
        due("none", r.x.stood(0, 0, 100, 1), -1);
        add(r, 0, 0, 100, 0, 60);
        due("no day", r.x.stood(0, 0, 100, 0), 0);
        due("no day", r.x.stood(0, 0, 100, 1), 0);
        due("till the last day", r.x.stood(0, 0, 20000, 0), 19900);
        Rig s = rig(100);
        add(s, 0, 0, 10, 0, 60);
        add(s, 0, 1, 20, 0, 60);
        add(s, 0, 1, 30, 0, 50);
        add(s, 0, 0, 30, 1, 49);
        add(s, 0, 0, 50, 0, 48);
        add(s, 0, 0, 81, 0, 47);
        due("as long as the first: no", s.x.stood(0, 0, 100, 0), 31);
        due("the one that is longer by a day", s.x.stood(0, 0, 100, 1), 4);
        due("the last one as long", s.x.stood(0, 0, 112, 1), 4);
        due("the last one longer", s.x.stood(0, 0, 113, 1), 5);
        due("the last one longer", s.x.stood(0, 0, 113, 0), 32);
        Rig t = rig(100);
        add(t, 0, 0, 10, 0, 60);
        add(t, 0, 1, 20, 0, 60);
        add(t, 0, 1, 40, 0, 50);
        due("like ones", t.x.stood(0, 0, 100, 1), 2);
        due("like ones", t.x.stood(0, 0, 101, 1), 2);
        Rig u = rig(100);
        add(u, 0, 0, 40, 0, 60);
        add(u, 0, 1, 70, 0, 50);
        due("of like ones the first", u.x.stood(0, 0, 100, 1), 0);
        due("of like ones the first", u.x.stood(0, 0, 100, 0), 30);
    }

    // ==== NEW, GONE

    private static void alteredIs(Rig r, int one, int other, int... wanted) {
        for (int what = 0; what < 4; what++) {
            due("altered " + one + " " + other + " " + what, r.x.altered(0, one, other, what), wanted[what]);
        }
    }

    // "what 0: how many, 1: the lowest MARK, NONE"
    private static void newAndGone() {
        Rig r = rig(10);
        alteredIs(r, 0, 20000, 0, -1, 0, -1);
        due("marks", r.text(mark(0, 0, 9, 0, 50) + mark(0, 1, 8, 0, 50) + mark(0, 2, 7, 0, 40)), 3);
        due("two", r.acts("r1;r0;d5;r2;d5;s2;"), 6);
        alteredIs(r, 9, 9, 0, -1, 0, -1);
        alteredIs(r, 9, 10, 2, 0, 0, -1);
        alteredIs(r, 10, 9, 0, -1, 2, 0);
        alteredIs(r, 10, 14, 0, -1, 0, -1);
        alteredIs(r, 14, 15, 1, 2, 2, 0);
        alteredIs(r, 15, 19, 0, -1, 0, -1);
        alteredIs(r, 19, 20, 2, 0, 1, 2);
        alteredIs(r, 14, 20, 0, -1, 0, -1);
        alteredIs(r, 20, 20000, 0, -1, 0, -1);
        alteredIs(r, 0, 20000, 2, 0, 0, -1);
    }

    // ==== THE LIST

    private static void listIs(Rig r, int event, int scope, int day, int... marks) {
        due("how many", r.x.list(event, scope, day, -1), marks.length);
        for (int i = 0; i < marks.length; i++) {
            due("list at " + i, r.x.list(event, scope, day, i), marks[i]);
        }
        due("behind the list", r.x.list(event, scope, day, marks.length), -2);
    }

    // "of like ones the first by DAY, MINUTE, number"
    private static void listOfTheBest() {
        Rig r = rig(100);
        listIs(r, 0, 0, 100);
        add(r, 0, 0, 10, 5, 50);
        add(r, 0, 0, 10, 5, 50);
        listIs(r, 0, 0, 100, 0);
        add(r, 0, 0, 10, 4, 50);
        listIs(r, 0, 0, 100, 2);
        add(r, 0, 0, 9, 1439, 50);
        listIs(r, 0, 0, 100, 3);
        add(r, 0, 0, 9, 0, 51);
        listIs(r, 0, 0, 100, 3);
        add(r, 0, 0, 100, 1439, 49);
        listIs(r, 0, 0, 100, 5);
        add(r, 0, 1, 100, 1439, 49);
        listIs(r, 0, 0, 100, 5, 6);
        add(r, 0, 1, 100, 1438, 49);
        listIs(r, 0, 0, 100, 7, 5);
        add(r, 0, 2, 0, 0, 50);
        listIs(r, 0, 0, 100, 7, 5, 8);
        listIs(r, 0, 3, 100, 8);
        listIs(r, 0, 0, 99);
        Rig more = rig(100);
        add(more, 1, 0, 1, 0, 1);
        add(more, 1, 1, 1, 0, 1000000);
        add(more, 1, 0, 1, 0, 2);
        listIs(more, 1, 0, 100, 1, 2);
    }

    // rank: "NONE: it is not in it"
    private static void rankOrNone() {
        Rig r = rig(100);
        add(r, 0, 0, 1, 0, 50);
        add(r, 0, 0, 2, 0, 50);
        add(r, 0, 1, 3, 0, 50);
        due("mark", r.text(mark(0, 2, 4, 0, 1)), 1);
        due("the first", r.x.rank(0, 0), 0);
        due("as good, later", r.x.rank(1, 0), -1);
        due("the last", r.x.rank(2, 0), 1);
        due("not ratified", r.x.rank(3, 0), -1);
        due("not of the scope", r.x.rank(0, 2), -1);
        due("not of the last scope", r.x.rank(0, 21), -1);
        due("strike", r.x.strike(0), 100);
        due("struck out", r.x.rank(0, 0), -1);
        due("his next", r.x.rank(1, 0), 0);
    }

    // WISHED: "0: no such VALUE, it would be below 1, above 1000000"
    private static void wishedWithinValues() {
        int[][] wishes = {{0, 2, 1}, {0, 1, 0}, {0, 1000000, 999999}, {1, 1, 2}, {1, 999999, 1000000}, {1, 1000000, 0}};
        for (int[] wish : wishes) {
            Rig r = rig(10);
            due("no marks", r.x.wished(wish[0], 0, 10), -1);
            add(r, wish[0], 0, 0, 0, wish[1]);
            due("wished of " + wish[1], r.x.wished(wish[0], 0, 10), wish[2]);
            due("no marks as known ahead", r.x.wished(wish[0], 0, 9), -1);
        }
    }

    // WOULD: "into how many SCOPES' CHAINS (0 to 21, AS KNOWN on TODAY) a MARK that isn't RATIFIED would come"
    private static void wouldBeInAChain() {
        Rig r = rig(100);
        // scopes of athlete 0 at place 0, of age 0: 0, 1, 7, 15, 16, 17
        due("marks", r.text(mark(0, 0, 50, 5, 50) + mark(0, 0, 50, 6, 51) + mark(0, 0, 50, 6, 50) + mark(0, 0, 50, 5, 51) + mark(0, 0, 50, 4, 51)), 5);
        due("into empty ones", r.x.would(1), 6);
        due("ratify", r.x.ratify(0), 100);
        due("it is ratified", r.x.would(0), -1);
        due("worse by one", r.x.would(1), 0);
        due("as good", r.x.would(2), 6);
        due("worse, of the same moment with a higher number", r.x.would(3), 0);
        due("worse, a minute ahead", r.x.would(4), 6);
        due("strike", r.x.strike(0), 100);
        due("struck out and ratified", r.x.would(0), -1);
        due("none keeps it out", r.x.would(1), 6);
        due("strike", r.x.strike(1), 100);
        due("struck out", r.x.would(1), 6);
        due("needs", r.needs("v=0;"), 1);
        due("not good", r.x.would(1), 6);
        due("the next day", r.x.days(1), 101);
        due("no such", r.x.would(5), -1);
        // the first number of a moment, when a higher one is there
        Rig s = rig(100);
        due("marks", s.text(mark(0, 0, 50, 5, 51) + mark(0, 0, 50, 5, 50)), 2);
        due("ratify", s.x.ratify(1), 100);
        due("ahead by its number", s.x.would(0), 6);
        // 0, area, place, and 18 to 21: of an age of 50, into the last scope, too; of 49 not
        Rig old = new Rig();
        due("told", old.text("e0,-1;p0,0;a-18250,5;a-18249,5;" + mark(0, 0, 0, 0, 1) + mark(0, 1, 0, 0, 1)), 6);
        due("age 50", old.x.would(0), 7);
        due("age 49", old.x.would(1), 6);
    }

    // ==== CHAMPION, THE TABLE

    // "most together (above 0; of like ones the lowest)"
    private static void championAboveZero() {
        Rig r = rig(10);
        due("none", r.x.champion(10, 0), -1);
        add(r, 0, 5, 0, 0, 1000000);
        due("0 points", r.x.points(0), 0);
        due("not above 0", r.x.champion(10, 0), -1);
        due("not above 0", r.x.champion(10, 1), 0);
        add(r, 1, 5, 0, 0, 1);
        due("1 point", r.x.champion(10, 0), 5);
        due("1 point", r.x.champion(10, 1), 1);
        add(r, 1, 4, 0, 0, 1);
        due("of like ones the lowest", r.x.champion(10, 0), 4);
        add(r, 1, 5, 0, 0, 2);
        due("above by one", r.x.champion(10, 0), 5);
        due("one of each event", r.x.champion(10, 1), 2);
        add(r, 0, 0, 0, 0, 999998);
        due("of another event", r.x.champion(10, 0), 0);
        add(r, 0, 5, 0, 0, 999999);
        due("together", r.x.champion(10, 0), 5);
        due("together", r.x.champion(10, 1), 3);
        due("as known ahead", r.x.champion(9, 0), -1);
        due("as known on the last day", r.x.champion(20000, 0), 5);
        // the most that can be: six events
        Rig most = new Rig();
        due("told", most.text("e1,-1;e1,-1;e1,-1;e1,-1;e1,-1;e1,-1;p0,0;a0,5;"), 8);
        for (int event = 0; event < 6; event++) {
            add(most, event, 0, 0, 0, 1000000);
        }
        due("the most", most.x.champion(0, 1), 6000000);
        due("the most", most.x.table(5, 0), 6000000);
        due("another area", most.x.table(4, 0), 0);
    }

    // "of each EVENT the best POINTS of its ATHLETES' MARKS that STAND, together"
    private static void tableOfAnArea() {
        Rig r = rig(10);
        due("none", r.x.table(0, 10), 0);
        due("marks", r.text(mark(1, 0, 0, 0, 5) + mark(1, 5, 0, 0, 9)), 2);
        due("not ratified", r.x.table(0, 10), 0);
        due("ratify", r.acts("r0;r1;"), 2);
        due("area 0", r.x.table(0, 10), 5);
        due("area 5", r.x.table(5, 10), 9);
        due("area 1", r.x.table(1, 10), 0);
        add(r, 1, 0, 0, 0, 4);
        due("the best alone", r.x.table(0, 10), 5);
        add(r, 1, 0, 0, 0, 6);
        due("better by one", r.x.table(0, 10), 6);
        add(r, 0, 0, 0, 0, 999999);
        due("together", r.x.table(0, 10), 7);
        due("ahead", r.x.table(0, 9), 0);
    }

    // ==== MEETINGS

    // "how many of its MEETING that aren't STRUCK OUT are better"; "NONE: MARK k is STRUCK OUT"
    private static void placedInAMeeting() {
        Rig r = rig(10);
        due("marks", r.text(mark(0, 0, 5, 0, 50) + mark(0, 1, 5, 9, 50) + mark(0, 2, 5, 0, 49) + mark(0, 0, 5, 3, 51)), 4);
        int[] placed = {1, 1, 0, 3};
        for (int k = 0; k < 4; k++) {
            due("placed " + k, r.x.placed(k), placed[k]);
        }
        // another event, place, day is another meeting
        due("others", r.text(mark(1, 0, 5, 0, 50) + mark(0, 0, 4, 0, 1) + mark(0, 0, 6, 0, 1) + "m0,0,1,5,0,1,0,0,0;"), 4);
        for (int k = 4; k < 8; k++) {
            due("alone " + k, r.x.placed(k), 0);
        }
        for (int k = 0; k < 4; k++) {
            due("placed " + k, r.x.placed(k), placed[k]);
        }
        due("strike", r.x.strike(2), 10);
        due("struck out", r.x.placed(2), -1);
        due("one less", r.x.placed(0), 0);
        due("one less", r.x.placed(3), 2);
        due("back", r.x.back(), 4);
        due("again", r.x.placed(2), 0);
        add(r, 1, 1, 5, 0, 51);
        due("more is better", r.x.placed(4), 1);
        due("ratified", r.x.placed(8), 0);
        due("no such", r.x.placed(9), -2);
        due("a ban strikes out, too", r.x.ban(1, 5, 5), 2);
        due("struck out", r.x.placed(8), -1);
        due("alone", r.x.placed(4), 0);
    }

    // "MEETINGS in which his best is better than the other's (both must have one)"
    private static void duelOfTheBest() {
        Rig r = rig(10);
        due("no meeting", r.x.duel(0, 1), 0);
        due("marks", r.text(mark(0, 0, 5, 0, 50)), 1);
        due("he alone", r.x.duel(0, 1), 0);
        due("the other alone", r.x.duel(1, 0), 0);
        due("as good", r.text(mark(0, 1, 5, 0, 50)), 1);
        due("as good", r.x.duel(0, 1), 0);
        due("as good", r.x.duel(1, 0), 0);
        due("better by one", r.text(mark(0, 1, 5, 1, 49)), 1);
        due("better by one", r.x.duel(1, 0), 1);
        due("the other way", r.x.duel(0, 1), 0);
        due("twice in one meeting", r.text(mark(0, 1, 5, 2, 49) + mark(0, 1, 5, 3, 48)), 2);
        due("once", r.x.duel(1, 0), 1);
        due("his best again", r.text(mark(0, 0, 5, 4, 47) + mark(0, 0, 5, 5, 99)), 2);
        due("his best counts", r.x.duel(0, 1), 1);
        due("his best counts", r.x.duel(1, 0), 0);
        due("strike", r.x.strike(5), 10);
        due("struck out", r.x.duel(0, 1), 0);
        due("struck out", r.x.duel(1, 0), 1);
        // no meeting of two days, places, events
        due("others", r.text(mark(0, 0, 6, 0, 1) + mark(0, 1, 7, 0, 2) + mark(1, 0, 8, 0, 9) + mark(0, 1, 8, 0, 9) + "m1,1,1,8,0,1,0,0,0;"), 5);
        due("others", r.x.duel(0, 1), 0);
        due("others", r.x.duel(1, 0), 1);
        due("where more is better", r.text(mark(1, 1, 8, 0, 8)), 1);
        due("where more is better", r.x.duel(0, 1), 1);
        due("where more is better", r.x.duel(1, 0), 1);
        // the first mark and the last one of all
        Rig ends = rig(10);
        due("marks", ends.text(mark(0, 0, 5, 0, 50) + mark(0, 1, 5, 0, 51) + mark(0, 0, 6, 0, 51) + mark(0, 1, 6, 0, 50)), 4);
        due("by the first", ends.x.duel(0, 1), 1);
        due("by the last", ends.x.duel(1, 0), 1);
    }

    // ==== PROGRESS, SINCE, WITHOUT

    private static void progressIs(Rig r, int event, int... wanted) {
        for (int what = 0; what < 3; what++) {
            due("progress " + what, r.x.progress(event, 0, 100, what), wanted[what]);
        }
    }

    // "the widest STEP (1; 0: none), its MARK (2; NONE)"
    private static void progressAndSteps() {
        Rig r = rig(100);
        progressIs(r, 0, 0, 0, -1);
        add(r, 0, 0, 1, 0, 1000000);
        progressIs(r, 0, 0, 0, -1);
        add(r, 0, 0, 2, 0, 1000000);
        progressIs(r, 0, 0, 0, -1);
        add(r, 0, 0, 3, 0, 999999);
        progressIs(r, 0, 1, 1, 2);
        add(r, 0, 0, 4, 0, 999998);
        progressIs(r, 0, 2, 1, 2);
        add(r, 0, 0, 5, 0, 999996);
        progressIs(r, 0, 4, 2, 4);
        add(r, 0, 0, 6, 0, 1);
        progressIs(r, 0, 999999, 999995, 5);
        add(r, 0, 0, 0, 0, 1);
        progressIs(r, 0, 0, 0, -1);
        add(r, 1, 0, 1, 0, 1);
        add(r, 1, 0, 2, 0, 1000000);
        progressIs(r, 1, 999999, 999999, 8);
    }

    // "the least DAY, as known on which a MARK is in a CHAIN (of DAYS till TODAY)"; "NONE: never"
    private static void sinceADay() {
        Rig r = rig(10);
        due("mark", r.text(mark(0, 0, 5, 0, 50) + mark(0, 1, 4, 0, 49)), 2);
        due("not ratified", r.x.since(0, 0), -1);
        due("ratify", r.x.ratify(0), 10);
        due("on TODAY", r.x.since(0, 0), 10);
        due("a day", r.x.days(1), 11);
        due("ratify", r.x.ratify(1), 11);
        due("it was in it", r.x.since(0, 0), 10);
        due("the other", r.x.since(1, 0), 11);
        due("not of the scope", r.x.since(1, 1), -1);
        // one that never was, till what keeps it out falls, on TODAY
        due("mark", r.text(mark(0, 2, 6, 0, 50)), 1);
        due("ratify", r.x.ratify(2), 11);
        due("kept out", r.x.since(2, 0), -1);
        due("a day", r.x.days(1), 12);
        due("kept out", r.x.since(2, 0), -1);
        due("strike", r.x.strike(1), 12);
        due("in it on TODAY", r.x.since(2, 0), 12);
        due("back", r.x.back(), 9);
        due("kept out", r.x.since(2, 0), -1);
        // struck out on the day on which what kept it out falls
        due("both on a day", r.acts("d1;s1;s2;"), 3);
        due("never", r.x.since(2, 0), -1);
        // ratified and another that is as good: both
        Rig s = rig(0);
        add(s, 0, 0, 0, 0, 50);
        add(s, 0, 0, 0, 0, 50);
        due("on the first day", s.x.since(0, 0), 0);
        due("on the first day", s.x.since(1, 0), 0);
        due("till the last", s.x.days(20000), 20000);
        due("mark", s.text(mark(0, 0, 20000, 1439, 50)), 1);
        due("ratify", s.x.ratify(2), 20000);
        due("on the last day", s.x.since(2, 0), 20000);
    }

    // "how many MARKS would come into THE CHAIN (what 0), RECORD then (1; NONE)"
    private static void withoutAMark() {
        Rig r = rig(100);
        due("mark", r.text(mark(0, 0, 10, 0, 50)), 1);
        due("not ratified", r.x.without(0, 0, 0), 0);
        due("no record", r.x.without(0, 0, 1), -1);
        due("ratify", r.x.ratify(0), 100);
        due("none comes", r.x.without(0, 0, 0), 0);
        due("no record", r.x.without(0, 0, 1), -1);
        add(r, 0, 1, 11, 0, 51);
        due("one comes", r.x.without(0, 0, 0), 1);
        due("record then", r.x.without(0, 0, 1), 51);
        add(r, 0, 1, 12, 0, 50);
        due("one that is in it does not come", r.x.without(0, 0, 0), 1);
        due("record then", r.x.without(0, 0, 1), 50);
        due("of one that is not in it", r.x.without(1, 0, 0), 0);
        due("of one that is not in it", r.x.without(1, 0, 1), 50);
        due("of another scope", r.x.without(0, 2, 0), 0);
        due("of another scope", r.x.without(0, 2, 1), 50);
        due("of a scope without marks", r.x.without(0, 21, 0), 0);
        due("of a scope without marks", r.x.without(0, 21, 1), -1);
        due("the mark is still there", r.x.chain(0, 0, 100, 0), 0);
        due("strike", r.x.strike(0), 100);
        due("struck out", r.x.without(0, 0, 0), 0);
        due("struck out", r.x.without(0, 0, 1), 50);
    }

    // ==== PERSONAL, SEASON, AT

    // "then each that is better than the latest of these"
    private static void personalMustBeBetter() {
        Rig r = rig(100);
        due("none", r.x.personal(0, 0, -1), 0);
        due("none", r.x.personal(0, 0, 0), -2);
        add(r, 0, 0, 10, 5, 50);
        add(r, 0, 0, 10, 5, 50);
        add(r, 0, 0, 11, 0, 51);
        due("one", r.x.personal(0, 0, -1), 1);
        due("the first by number", r.x.personal(0, 0, 0), 0);
        add(r, 0, 0, 12, 0, 49);
        due("better by one", r.x.personal(0, 0, -1), 2);
        due("better by one", r.x.personal(0, 0, 1), 3);
        add(r, 0, 0, 10, 4, 50);
        due("a minute ahead", r.x.personal(0, 0, 0), 4);
        due("two still", r.x.personal(0, 0, -1), 2);
        due("none such", r.x.personal(0, 0, 2), -2);
        add(r, 0, 1, 1, 0, 1);
        due("of another one", r.x.personal(0, 0, 0), 4);
        due("of the other event", r.x.personal(0, 1, -1), 0);
    }

    // "DAYS 365 YEAR to 365 YEAR and 364"; "of a YEAR (0 to 54)"
    private static void seasonsOf365Days() {
        int[] days = {0, 364, 365, 729, 730, 19709, 19710, 20000};
        int[] years = {0, 0, 1, 1, 2, 53, 54, 54};
        Rig r = rig(20000);
        for (int i = 0; i < days.length; i++) {
            add(r, 0, 0, days[i], 0, 10 + i);
        }
        for (int year = 0; year <= 54; year++) {
            int count = 0;
            for (int i = 0; i < years.length; i++) {
                if (years[i] == year) {
                    due("season " + year, r.x.season(0, year, count), i);
                    count++;
                }
            }
            due("season " + year, r.x.season(0, year, -1), count);
            due("behind season " + year, r.x.season(0, year, count), -2);
        }
        due("year -1", r.x.season(0, -1, -1), -2);
        due("year 55", r.x.season(0, 55, -1), -2);
        // of like ones by day, minute, number; all of an athlete
        Rig s = rig(20000);
        add(s, 1, 0, 365, 1, 5);
        add(s, 1, 0, 365, 1, 5);
        add(s, 1, 0, 365, 0, 5);
        add(s, 1, 0, 364, 1439, 5);
        add(s, 1, 0, 366, 0, 6);
        int[] wanted = {4, 2, 0, 1};
        for (int i = 0; i < wanted.length; i++) {
            due("season", s.x.season(1, 1, i), wanted[i]);
        }
        due("behind", s.x.season(1, 1, 4), -2);
    }

    // "the latest MARK of THE CHAIN (AS KNOWN on TODAY) not behind it"
    private static void atAMoment() {
        Rig r = rig(20000);
        due("none", r.x.at(0, 0, 20000, 1439), -1);
        add(r, 0, 0, 0, 0, 50);
        add(r, 0, 0, 10, 700, 49);
        add(r, 0, 0, 10, 700, 49);
        add(r, 0, 0, 10, 700, 50);
        add(r, 0, 0, 20000, 1439, 48);
        int[][] moments = {{0, 0, 0}, {10, 699, 0}, {9, 1439, 0}, {10, 700, 2}, {10, 701, 2}, {11, 0, 2}, {20000, 1438, 2}, {20000, 1439, 4}};
        for (int[] moment : moments) {
            due("at " + moment[0] + " " + moment[1], r.x.at(0, 0, moment[0], moment[1]), moment[2]);
        }
        Rig s = rig(10);
        add(s, 0, 0, 10, 700, 49);
        due("ahead by a minute", s.x.at(0, 0, 10, 699), -1);
        due("ahead by a day", s.x.at(0, 0, 9, 1439), -1);
        due("at it", s.x.at(0, 0, 10, 700), 0);
        due("a day that is not yet", s.x.at(0, 0, 20000, 0), 0);
        due("the other event", s.x.at(1, 0, 20000, 0), -1);
        due("another scope", s.x.at(0, 2, 20000, 0), -1);
    }

    // ==== MISSING

    // "the fewest PAPERS (bits) more by which a MARK would be GOOD; of like ones the least"; "0: it is GOOD"; "NONE: none would do"
    private static void missingPapers() {
        String[] needs = {"1=1;", "x=1;", "y=1;", "z=1;", "x=1;y=1;", "x=1;z=1;", "y=1;z=1;", "x=1;y=1;z=1;", "x+y+z=2;", "x+y+z>0;", "y+z>0;", "x+y=2|z=1;",
            "x+y+z=0;", "1=0;", "x=0;y=1;"};
        // of marks with no papers, with x, with the three that needs can't see, with all
        int[][] wanted = {{0, 0, 0, 0}, {1, 0, 1, 0}, {2, 2, 2, 0}, {4, 4, 4, 0}, {3, 2, 3, 0}, {5, 4, 5, 0}, {6, 6, 6, 0}, {7, 6, 7, 0}, {3, 2, 3, -1},
            {1, 0, 1, 0}, {2, 2, 2, 0}, {4, 2, 4, 0}, {0, -1, 0, -1}, {-1, -1, -1, -1}, {2, -1, 2, -1}};
        Rig r = new Rig();
        due("told", r.text("e0,5;p0,0;a0,0;m0,0,0,0,0,1,5,0,0;m0,0,0,0,0,1,5,0,1;m0,0,0,0,0,1,5,0,56;m0,0,0,0,0,1,5,0,63;m0,0,0,0,0,1,6,0,0;"), 8);
        for (int i = 0; i < needs.length; i++) {
            due(needs[i], r.needs(needs[i]), needs[i].split(";").length);
            for (int k = 0; k < 4; k++) {
                due("missing by " + needs[i] + " of " + k, r.x.missing(k), wanted[i][k]);
            }
            due("the wind by " + needs[i], r.x.missing(4), -1);
        }
        due("papers stay", r.x.mark(0, 8), 0);
        due("no such", r.x.missing(5), -2);
        due("no such", r.x.missing(-1), -2);
    }

    // ==== stands, holding, drought

    // "in how many THE CHAIN has it (what 0), THE CHAIN's last is it (1), THE LIST has it (2), THE LIST's first is it (3)"
    private static void standsInScopes() {
        Rig r = rig(100);
        due("mark", r.text(mark(0, 0, 10, 0, 50)), 1);
        for (int what = 0; what < 4; what++) {
            due("not ratified", r.x.stands(0, what), 0);
        }
        due("ratify", r.x.ratify(0), 100);
        for (int what = 0; what < 4; what++) {
            due("alone", r.x.stands(0, what), 6);
        }
        add(r, 0, 0, 11, 0, 50);
        int[][] tied = {{6, 0, 6, 6}, {6, 6, 0, 0}};
        for (int k = 0; k < 2; k++) {
            for (int what = 0; what < 4; what++) {
                due("tied " + k + " " + what, r.x.stands(k, what), tied[k][what]);
            }
        }
        // one of another area and place, but of the same ages
        due("mark", r.text("m0,1,7,12,0,49,0,0,0;"), 1);
        due("ratify", r.x.ratify(2), 100);
        int[][] wanted = {{6, 0, 6, 2}, {6, 2, 0, 0}, {6, 6, 6, 6}};
        for (int k = 0; k < 3; k++) {
            for (int what = 0; what < 4; what++) {
                due("stands " + k + " " + what, r.x.stands(k, what), wanted[k][what]);
            }
        }
        due("strike", r.x.strike(2), 100);
        for (int what = 0; what < 4; what++) {
            due("struck out", r.x.stands(2, what), 0);
        }
        due("again", r.x.stands(1, 1), 6);
        // the most scopes that a mark can be of: all, area, place, and four ages
        Rig old = new Rig();
        due("told", old.text("e0,-1;p0,0;a-18250,5;" + mark(0, 0, 0, 0, 1)), 4);
        due("ratify", old.x.ratify(0), 0);
        due("in the last scope", old.x.stands(0, 0), 7);
        due("in the last scope", old.x.stands(0, 1), 7);
        due("in the last scope", old.x.stands(0, 2), 7);
        due("in the last scope", old.x.stands(0, 3), 7);
    }

    // "ATHLETES who are HOLDERS in some SCOPE (0 to 21)"; "of all EVENTS (event NONE)"
    private static void holdingInSomeScope() {
        Rig r = new Rig();
        due("told", r.text("e0,-1;e1,-1;p0,0;a0,0;a-18250,0;a-12774,0;"), 6);
        due("none", r.x.holding(0), 0);
        due("none of all", r.x.holding(-1), 0);
        add(r, 0, 0, 0, 9, 50);
        due("one", r.x.holding(0), 1);
        due("none of the other", r.x.holding(1), 0);
        // worse, and in the same area and place: scopes 18 to 21 alone
        add(r, 0, 1, 0, 8, 60);
        due("in scopes 18 to 21", r.x.holding(0), 3);
        // 34 years: in no age's scope, and worse
        add(r, 0, 2, 0, 7, 70);
        due("in no scope", r.x.holding(0), 3);
        add(r, 1, 2, 0, 0, 1);
        due("of the other event", r.x.holding(1), 4);
        due("of all", r.x.holding(-1), 7);
        due("of the first still", r.x.holding(0), 3);
        due("strike", r.x.strike(1), 0);
        due("in none now", r.x.holding(0), 1);
        // one of 50 years who is behind one of 49 in all other scopes
        Rig old = new Rig();
        due("told", old.text("e0,-1;p0,0;a-18249,0;a-18250,0;" + mark(0, 0, 0, 0, 50) + mark(0, 1, 0, 1, 60)), 6);
        due("ratify", old.acts("r0;r1;"), 2);
        due("in the last scope alone", old.x.holding(0), 3);
    }

    // "the most DAYS from one of its MARKS to the next (from the last one to k)"; "0: no MARKS"
    private static void droughtTillTheDay() {
        Rig r = rig(100);
        due("no marks", r.x.drought(0, 0, 20000), 0);
        add(r, 0, 0, 100, 0, 50);
        due("on its day", r.x.drought(0, 0, 100), 0);
        due("a day", r.x.drought(0, 0, 101), 1);
        due("the last day", r.x.drought(0, 0, 20000), 19900);
        add(r, 0, 0, 40, 0, 50);
        due("to the next", r.x.drought(0, 0, 100), 60);
        due("as long from the last", r.x.drought(0, 0, 160), 60);
        due("longer from the last", r.x.drought(0, 0, 161), 61);
        add(r, 0, 0, 70, 0, 51);
        due("not by one that is not in it", r.x.drought(0, 0, 100), 60);
        add(r, 0, 0, 70, 0, 50);
        due("a tie between", r.x.drought(0, 0, 100), 30);
        due("ahead", r.x.drought(0, 0, 99), 0);
        due("from the first to the last day", first().x.drought(0, 0, 20000), 20000);
    }

    // ==== write, octet

    /** A chain of 36 marks with 394 bytes, and a last one with some more. */
    private static Rig written(String last) {
        Rig r = rig(0);
        for (int n = 0; n < 36; n += 18) {
            StringBuilder marks = new StringBuilder();
            for (int i = 0; i < 18; i++) {
                marks.append(mark(0, 0, 0, n + i, 1000000));
            }
            due("marks", r.text(marks.toString()), 18);
        }
        for (int k = 0; k < 36; k++) {
            due("ratify", r.x.ratify(k), 0);
        }
        due("bytes", r.x.write(0, 0, 0), 394);
        due("the last", r.text("m0,0,0,0,36," + last + ",0,0,0;"), 1);
        due("ratify", r.x.ratify(36), 0);
        return r;
    }

    // "how many bytes (the first 400 alone)"
    private static void writtenTill400() {
        String[] lasts = {"12", "123", "1234", "1000000"};
        int[] bytes = {399, 400, 400, 400};
        String[] ends = {" 12/0", " 123/0", " 1234/", " =1000"};
        for (int i = 0; i < lasts.length; i++) {
            Rig r = written(lasts[i]);
            due("bytes with " + lasts[i], r.x.write(0, 0, 0), bytes[i]);
            for (int j = 0; j < ends[i].length(); j++) {
                due("byte " + (394 + j), r.x.octet(394 + j), ends[i].charAt(j));
            }
            due("behind the last", r.x.octet(bytes[i]), -1);
            due("behind all", r.x.octet(400), -1);
            due("the first", r.x.octet(0), '1');
            due("ahead", r.x.octet(-1), -1);
        }
    }

    // octet: "Byte k of what was written latest. NONE: there is none"
    private static void octetsOfTheLatest() {
        Rig r = rig(10);
        due("nothing is written", r.x.octet(0), -1);
        due("an empty chain", r.x.write(0, 0, 10), 0);
        due("no byte", r.x.octet(0), -1);
        add(r, 0, 5, 5, 0, 1);
        due("nothing is written of itself", r.x.octet(0), -1);
        due("the shortest", r.x.write(0, 0, 10), 3);
        String wanted = "1/5";
        for (int k = 0; k < 3; k++) {
            due("byte " + k, r.x.octet(k), wanted.charAt(k));
        }
        for (int k : new int[] {3, -1, Integer.MAX_VALUE, Integer.MIN_VALUE}) {
            due("no byte " + k, r.x.octet(k), -1);
        }
        due("refused", r.x.write(0, 0, 20001), -2);
        due("the latest stays", r.x.octet(2), '5');
        due("back", r.x.back(), 3);
        due("it stays", r.x.octet(2), '5');
        due("of none", r.x.write(0, 0, 9), 0);
        due("no byte", r.x.octet(0), -1);
    }
}
