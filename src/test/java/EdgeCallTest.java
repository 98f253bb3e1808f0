import java.util.ArrayList;
import java.util.List;

/**
 * The sentences of promises 1 to 49 that say which calls are refused: the last numbers that a call takes, the first that
 * it does not take, and that nothing is done by a refused call, nor by a question.
 */
public final class EdgeCallTest {
    private static final int LOW = Integer.MIN_VALUE;
    private static final int HIGH = Integer.MAX_VALUE;
    private static final int UNKNOWN = -1000000;
    private static final Check CHECK = new Check("EdgeCallTest");

    /** A call on an object. */
    private interface Call {
        int on(MarkChains x);
    }

    /** A question of an event, a scope and a day. */
    private interface Asked {
        int of(MarkChains x, int event, int scope, int day);
    }

    /** A question of one number. */
    private interface One {
        int of(MarkChains x, int number);
    }

    private static void due(String what, long got, long want) {
        CHECK.due(what, got, want);
    }

    public static void main(String[] args) {
        newObjectRefusesAll();
        refusedCallsDoNothing();
        questionsDoNothing();
        numbersOfEvents();
        numbersOfPlaces();
        numbersOfAthletes();
        numbersOfMarks();
        scopesTill21();
        daysTill20000();
        whats();
        placesInRows();
        keys();
        areas();
        years();
        minutes();
        daysThatGoBy();
        bitsOfPapers();
        bansFromTo();
        ratifyTellsTheFirstThatFits();
        twelveDeeds();
        refusedCallsAreNoDeeds();
        deedsThatChangeNothing();
        backOfNone();
        deedsAfterBack();
        backOfABan();
        backOfATextAhead();
        CHECK.finish();
    }

    // ==== refused calls

    /**
     * Two events, two places, three athletes, five marks (0 ratified and struck out, 1 ratified, 2 good, 3 not good, 4 struck
     * out and not good), TODAY 106, eleven deeds, a fault, acts, what was written, and three bytes on the tape.
     */
    private static MarkChains house() {
        Rig r = new Rig();
        due("house", r.text("e0,-1;e1,20;p0,100;p3,2000;a0,0;a-7300,1;a-14600,0;"), 7);
        due("house", r.x.days(100), 100);
        due("house", r.text("m0,0,0,10,5,500,0,1,0;m0,1,1,20,0,400,0,0,0;m1,2,0,100,1439,77,20,9,1;m1,0,1,0,0,30,21,0,8;"
                + "m1,1,0,7,7,31,0,0,0;"), 5);
        due("house", r.needs("v>0;x=1|e=0;"), 2);
        due("house", r.score("v*2+1"), 3);
        due("house", r.x.ratify(0), 100);
        due("house", r.x.ratify(1), 100);
        due("house", r.x.days(5), 105);
        due("house", r.x.strike(0), 105);
        due("house", r.x.strike(4), 105);
        due("house", r.acts("d1;r99;"), 1);
        due("house", r.x.write(0, 0, 104), 11);
        due("house", r.needs("v>~"), -1);
        r.tape("abc");
        due("house", r.x.is(6), 11);
        return r.x;
    }

    /** Calls it on one of two like objects; both must show the same then, and as all is taken back. */
    private static void nothingDoneBy(String what, int answer, Call call) {
        MarkChains one = house();
        MarkChains other = house();
        due(what, call.on(one), answer);
        CHECK.that(what + " did something", State.of(one).equals(State.of(other)));
        for (int deeds = 10; deeds >= 0; deeds--) {
            due(what + ": back", one.back(), deeds);
            due(what + ": back", other.back(), deeds);
            CHECK.that(what + " is shown when taken back", State.counts(one).equals(State.counts(other)));
        }
        due(what + ": no more", one.back(), -1);
    }

    // "NONE for others", "-2 for others", "NONE, and nothing is done": each with the first numbers that are too small and too large
    private static void refusedCallsDoNothing() {
        for (int n : new int[] {-1, 4, LOW, HIGH}) {
            nothingDoneBy("end " + n, -1, x -> x.end(n));
        }
        for (int n : new int[] {0, -1, 20001, LOW, HIGH}) {
            nothingDoneBy("days " + n, -1, x -> x.days(n));
        }
        for (int k : new int[] {-1, 5, LOW, HIGH}) {
            nothingDoneBy("ratify " + k, -2, x -> x.ratify(k));
            nothingDoneBy("strike " + k, -2, x -> x.strike(k));
            nothingDoneBy("paper " + k, -1, x -> x.paper(k, 63));
        }
        nothingDoneBy("ratify 0: it is", -3, x -> x.ratify(0));
        nothingDoneBy("ratify 1: it is", -3, x -> x.ratify(1));
        nothingDoneBy("ratify 4: it is struck out", -4, x -> x.ratify(4));
        nothingDoneBy("ratify 3: it is not good", -5, x -> x.ratify(3));
        nothingDoneBy("strike 0: it is", -3, x -> x.strike(0));
        nothingDoneBy("strike 4: it is", -3, x -> x.strike(4));
        for (int bits : new int[] {-1, 64, LOW, HIGH}) {
            nothingDoneBy("paper of bits " + bits, -1, x -> x.paper(1, bits));
        }
        for (int athlete : new int[] {-1, 3, LOW, HIGH}) {
            nothingDoneBy("ban of " + athlete, -1, x -> x.ban(athlete, 0, 20000));
        }
        nothingDoneBy("ban from above to", -1, x -> x.ban(1, 20, 19));
        nothingDoneBy("ban from above to", -1, x -> x.ban(1, HIGH, LOW));
        nothingDoneBy("write", -2, x -> x.write(2, 0, 100));
        nothingDoneBy("write", -2, x -> x.write(0, 22, 100));
        nothingDoneBy("write", -2, x -> x.write(0, 0, 20001));
        nothingDoneBy("write", -2, x -> x.write(0, 0, -1));
    }

    // questions change nothing, those that are refused neither
    private static void questionsDoNothing() {
        nothingDoneBy("questions", 0, x -> {
            for (int a : new int[] {0, 1, -1, 2, 22, LOW, HIGH}) {
                x.is(a);
                x.mark(a, 3);
                x.told(a, 0, 0);
                x.good(a);
                x.within(a, a);
                x.chain(a, 0, 106, 0);
                x.record(a, 0, 106);
                x.holders(a, 0, 106);
                x.ties(a, 0, 106);
            }
            return 0;
        });
        nothingDoneBy("questions", 0, x -> {
            for (int a : new int[] {0, 1, -1, 2, HIGH}) {
                x.held(a, 0, a, 106);
                x.stood(a, 0, 106, 0);
                x.altered(a, 100, 106, 0);
                x.list(a, 0, 106, 0);
                x.rank(a, 0);
                x.wished(a, 0, 106);
                x.would(a);
                x.points(a);
                x.champion(106, a);
                x.table(a, 106);
                x.placed(a);
                x.duel(a, 1);
            }
            return 0;
        });
        nothingDoneBy("questions", 0, x -> {
            for (int a : new int[] {0, 1, -1, 2, LOW}) {
                x.progress(a, 0, 106, 0);
                x.since(a, 0);
                x.without(a, 0, 0);
                x.ended();
                x.row(a);
                x.personal(a, 0, 0);
                x.season(a, 0, 0);
                x.at(a, 0, 106, 0);
                x.missing(a);
                x.stands(a, 0);
                x.holding(a);
                x.drought(a, 0, 106);
                x.octet(a);
                x.fault();
            }
            return 0;
        });
    }

    // promise 1: nothing is told, so that no number is one of an EVENT, a PLACE, an ATHLETE, a MARK
    private static void newObjectRefusesAll() {
        MarkChains x = new MarkChains();
        for (int n : new int[] {0, -1, 1}) {
            due("mark", x.mark(n, 0), UNKNOWN);
            due("told", x.told(0, n, 0), UNKNOWN);
            due("told", x.told(1, n, 0), UNKNOWN);
            due("told", x.told(2, n, 0), UNKNOWN);
            due("good", x.good(n), -2);
            due("ratify", x.ratify(n), -2);
            due("strike", x.strike(n), -2);
            due("ban", x.ban(n, 0, 0), -1);
            due("paper", x.paper(n, 0), -1);
            due("within", x.within(n, 0), -1);
            for (Asked asked : questions()) {
                due("asked", asked.of(x, n, 0, 0), -2);
            }
            due("rank", x.rank(n, 0), -2);
            due("would", x.would(n), -1);
            due("points", x.points(n), -1);
            due("placed", x.placed(n), -2);
            due("duel", x.duel(n, n + 1), -2);
            due("since", x.since(n, 0), -2);
            due("without", x.without(n, 0, 0), -2);
            due("personal", x.personal(n, 0, -1), -2);
            due("season", x.season(n, 0, -1), -2);
            due("missing", x.missing(n), -2);
            due("stands", x.stands(n, 0), -2);
            due("holding", x.holding(n), n == -1 ? 0 : -2);
            due("row", x.row(n), -1);
            due("octet", x.octet(n), -1);
        }
        due("champion", x.champion(0, 0), -1);
        due("champion", x.champion(20000, 1), 0);
        due("table", x.table(0, 0), 0);
        due("ended", x.ended(), -1);
        due("fault", x.fault(), -1);
        due("back", x.back(), -1);
        for (int what = 0; what <= 11; what++) {
            due("is " + what, x.is(what), 0);
        }
    }

    // ==== the numbers that calls take

    private static List<Asked> questions() {
        List<Asked> all = new ArrayList<>();
        all.add((x, e, s, d) -> x.chain(e, s, d, -1));
        all.add((x, e, s, d) -> x.record(e, s, d));
        all.add((x, e, s, d) -> x.holders(e, s, d));
        all.add((x, e, s, d) -> x.ties(e, s, d));
        all.add((x, e, s, d) -> x.held(e, s, 0, d));
        all.add((x, e, s, d) -> x.stood(e, s, d, 0));
        all.add((x, e, s, d) -> x.stood(e, s, d, 1));
        all.add((x, e, s, d) -> x.list(e, s, d, -1));
        all.add((x, e, s, d) -> x.wished(e, s, d));
        all.add((x, e, s, d) -> x.progress(e, s, d, 0));
        all.add((x, e, s, d) -> x.progress(e, s, d, 1));
        all.add((x, e, s, d) -> x.progress(e, s, d, 2));
        all.add((x, e, s, d) -> x.at(e, s, d, 0));
        all.add((x, e, s, d) -> x.drought(e, s, d));
        all.add((x, e, s, d) -> x.write(e, s, d));
        return all;
    }

    /** All that can be told: 6 events, 8 places, 16 athletes, 60 marks of event k mod 6, place k mod 8, athlete k mod 16. */
    private static MarkChains full() {
        Rig r = new Rig();
        StringBuilder things = new StringBuilder();
        for (int i = 0; i < 6; i++) {
            things.append('e').append(i % 2).append(',').append(i).append(';');
        }
        for (int i = 0; i < 8; i++) {
            things.append('p').append(i % 6).append(',').append(100 + i).append(';');
        }
        for (int i = 0; i < 16; i++) {
            things.append('a').append(-i).append(',').append(i % 6).append(';');
        }
        due("full", r.text(things.toString()), 30);
        for (int first = 0; first < 60; first += 20) {
            StringBuilder marks = new StringBuilder();
            for (int k = first; k < first + 20; k++) {
                marks.append('m').append(k % 6).append(',').append(k % 16).append(',').append(k % 8).append(",0,").append(k).append(',');
                marks.append(k + 1).append(",0,0,0;");
            }
            due("full", r.text(marks.toString()), 20);
        }
        for (int k = 0; k < 60; k++) {
            due("full", r.x.ratify(k), 0);
        }
        return r.x;
    }

    private static void taken(String what, int answer, int refusal) {
        CHECK.that(what + " is refused", answer != refusal);
    }

    // EVENTS 0 to 5 of six
    private static void numbersOfEvents() {
        MarkChains x = full();
        for (Asked asked : questions()) {
            taken("event 0", asked.of(x, 0, 0, 0), -2);
            taken("event 5", asked.of(x, 5, 0, 0), -2);
            for (int event : new int[] {-1, 6, LOW, HIGH}) {
                due("event " + event, asked.of(x, event, 0, 0), -2);
            }
        }
        due("told", x.told(0, 5, 1), 5);
        due("told", x.told(0, 6, 0), UNKNOWN);
        due("told", x.told(0, -1, 0), UNKNOWN);
        due("told", x.told(0, HIGH, 0), UNKNOWN);
        due("told", x.told(0, LOW, 0), UNKNOWN);
        due("personal", x.personal(5, 5, 0), 5);
        due("season", x.season(5, 0, -1), 10);
        taken("holding", x.holding(5), -2);
        for (int event : new int[] {6, LOW, HIGH}) {
            due("personal", x.personal(0, event, -1), -2);
            due("season", x.season(event, 0, -1), -2);
            due("holding", x.holding(event), -2);
        }
        due("personal", x.personal(0, -1, -1), -2);
        due("season", x.season(-1, 0, -1), -2);
        due("holding of all", x.holding(-1), 65535);
        due("holding", x.holding(-2), -2);
    }

    // PLACES 0 to 7 of eight
    private static void numbersOfPlaces() {
        MarkChains x = full();
        due("told", x.told(1, 0, 1), 100);
        due("told", x.told(1, 7, 1), 107);
        for (int place : new int[] {-1, 8, LOW, HIGH}) {
            due("told", x.told(1, place, 1), UNKNOWN);
        }
        due("the first place", x.within(56, 7), 1);
        due("the last place", x.within(55, 14), 1);
        due("another place", x.within(55, 7), 0);
        due("another place", x.within(56, 14), 0);
        due("one place less", x.within(54, 14), 0);
    }

    // ATHLETES 0 to 15 of sixteen
    private static void numbersOfAthletes() {
        MarkChains x = full();
        due("told", x.told(2, 15, 0), -15);
        due("held by the last", x.held(3, 0, 15, 0), 0);
        due("personal of the last", x.personal(15, 3, 0), 15);
        taken("duel of the last", x.duel(15, 0), -2);
        taken("duel with the last", x.duel(0, 15), -2);
        for (int athlete : new int[] {-1, 16, LOW, HIGH}) {
            due("told", x.told(2, athlete, 0), UNKNOWN);
            due("held", x.held(0, 0, athlete, 0), -2);
            due("personal", x.personal(athlete, 0, -1), -2);
            due("duel", x.duel(athlete, 0), -2);
            due("duel", x.duel(0, athlete), -2);
            due("duel", x.duel(athlete, athlete), -2);
            due("ban", x.ban(athlete, LOW, HIGH), -1);
        }
        due("both are one", x.duel(15, 15), -2);
        due("both are one", x.duel(0, 0), -2);
        // of event 5, marks 35, 41, 47 are of area 3, by athletes 3, 9, 15
        due("the last as a bit", x.holders(5, 4, 0), 32768);
        due("ban of the last", x.ban(15, 0, 0), 3);
        due("ban of the first", x.ban(0, 0, 0), 4);
    }

    // MARKS 0 to 59 of sixty
    private static void numbersOfMarks() {
        MarkChains x = full();
        due("mark", x.mark(59, 4), 59);
        due("good", x.good(59), -1);
        due("within", x.within(59, 0), 1);
        taken("rank", x.rank(59, 0), -2);
        due("points", x.points(59), 60);
        taken("placed", x.placed(59), -2);
        due("since", x.since(59, 0), 0);
        taken("without", x.without(59, 0, 0), -2);
        due("missing", x.missing(59), 0);
        taken("stands", x.stands(59, 0), -2);
        due("would of one that is ratified", x.would(59), -1);
        for (int k : new int[] {-1, 60, LOW, HIGH}) {
            due("mark", x.mark(k, 4), UNKNOWN);
            due("good", x.good(k), -2);
            due("ratify", x.ratify(k), -2);
            due("strike", x.strike(k), -2);
            due("paper", x.paper(k, 0), -1);
            due("within", x.within(k, 0), -1);
            due("rank", x.rank(k, 0), -2);
            due("would", x.would(k), -1);
            due("points", x.points(k), -1);
            due("placed", x.placed(k), -2);
            due("since", x.since(k, 0), -2);
            due("without", x.without(k, 0, 0), -2);
            due("missing", x.missing(k), -2);
            due("stands", x.stands(k, 0), -2);
        }
        due("it is", x.ratify(59), -3);
        due("paper", x.paper(59, 32), 32);
        due("strike", x.strike(59), 0);
        due("strike", x.strike(0), 0);
        due("struck out", x.is(9), 2);
        due("back", x.back(), 11);
        due("back", x.back(), 10);
        due("struck out no more", x.mark(59, 11), -1);
        due("struck out no more", x.is(9), 0);
    }

    // SCOPES 0 to 21
    private static void scopesTill21() {
        MarkChains x = full();
        List<One> all = new ArrayList<>();
        for (Asked asked : questions()) {
            all.add((y, scope) -> asked.of(y, 0, scope, 0));
        }
        all.add((y, scope) -> y.rank(0, scope));
        all.add((y, scope) -> y.since(0, scope));
        all.add((y, scope) -> y.without(0, scope, 0));
        all.add((y, scope) -> y.without(0, scope, 1));
        for (One one : all) {
            for (int scope = 0; scope <= 21; scope += 7) {
                taken("scope " + scope, one.of(x, scope), -2);
            }
            for (int scope : new int[] {-1, 22, LOW, HIGH}) {
                due("scope " + scope, one.of(x, scope), -2);
            }
        }
        due("within 0", x.within(0, 0), 1);
        due("within 21", x.within(0, 21), 0);
        for (int scope : new int[] {-1, 22, LOW, HIGH}) {
            due("within " + scope, x.within(0, scope), -1);
        }
    }

    // DAYS 0 to 20000
    private static void daysTill20000() {
        MarkChains x = full();
        List<One> all = new ArrayList<>();
        for (Asked asked : questions()) {
            all.add((y, day) -> asked.of(y, 0, 0, day));
        }
        all.add((y, day) -> y.champion(day, 0));
        all.add((y, day) -> y.champion(day, 1));
        all.add((y, day) -> y.table(0, day));
        all.add((y, day) -> y.altered(0, day, 0, 0));
        all.add((y, day) -> y.altered(0, 0, day, 0));
        for (One one : all) {
            taken("day 0", one.of(x, 0), -2);
            taken("day 20000", one.of(x, 20000), -2);
            for (int day : new int[] {-1, 20001, LOW, HIGH}) {
                due("day " + day, one.of(x, day), -2);
            }
        }
    }

    private static void whats(String name, int last, int refusal, One one) {
        MarkChains x = full();
        for (int what = 0; what <= last; what++) {
            taken(name + " of what " + what, one.of(x, what), refusal);
        }
        for (int what : new int[] {-1, last + 1, LOW, HIGH}) {
            due(name + " of what " + what, one.of(x, what), refusal);
        }
    }

    // the last what of each question
    private static void whats() {
        whats("is", 11, -1, (x, what) -> x.is(what));
        whats("mark", 11, UNKNOWN, (x, what) -> x.mark(0, what));
        whats("told", 1, UNKNOWN, (x, what) -> x.told(0, 0, what));
        whats("told", 1, UNKNOWN, (x, what) -> x.told(1, 0, what));
        whats("told", 1, UNKNOWN, (x, what) -> x.told(2, 0, what));
        whats("sorts of told", 2, UNKNOWN, (x, what) -> x.told(what, 0, 0));
        whats("stood", 1, -2, (x, what) -> x.stood(0, 0, 0, what));
        whats("altered", 3, -2, (x, what) -> x.altered(0, 0, 0, what));
        whats("champion", 1, -2, (x, what) -> x.champion(0, what));
        whats("progress", 2, -2, (x, what) -> x.progress(0, 0, 0, what));
        whats("without", 1, -2, (x, what) -> x.without(0, 0, what));
        whats("stands", 3, -2, (x, what) -> x.stands(0, what));
    }

    // the i-th (0 on), how many (i NONE), "-2 for others, there is none such"
    private static void placesInRows() {
        Rig r = new Rig();
        due("told", r.text("e1,-1;p0,0;a0,0;a0,0;"), 4);
        List<One> all = new ArrayList<>();
        all.add((x, i) -> x.chain(0, 0, 0, i));
        all.add((x, i) -> x.list(0, 0, 0, i));
        all.add((x, i) -> x.personal(0, 0, i));
        all.add((x, i) -> x.season(0, 0, i));
        for (One one : all) {
            due("how many of none", one.of(r.x, -1), 0);
            for (int i : new int[] {0, -2, LOW, HIGH}) {
                due("none such of none", one.of(r.x, i), -2);
            }
        }
        due("marks", r.text("m0,0,0,0,0,1,0,0,0;m0,1,0,0,1,2,0,0,0;m0,0,0,0,2,3,0,0,0;m0,0,0,0,3,1,0,0,0;"), 4);
        due("all", r.acts("r0;r1;r2;r3;"), 4);
        int[][] rows = {{0, 1, 2}, {2, 1}, {0, 2}, {2, 1, 0, 3}};
        for (int j = 0; j < rows.length; j++) {
            One one = all.get(j);
            due("how many of row " + j, one.of(r.x, -1), rows[j].length);
            for (int i = 0; i < rows[j].length; i++) {
                due("row " + j + " at " + i, one.of(r.x, i), rows[j][i]);
            }
            for (int i : new int[] {rows[j].length, 60, -2, LOW, HIGH}) {
                due("row " + j + " at " + i, one.of(r.x, i), -2);
            }
        }
    }

    // altered: "EVENT key / 32 and SCOPE key mod 32"; "key 0 to 191"
    private static void keys() {
        MarkChains x = full();
        for (int event = 0; event < 6; event++) {
            taken("the first scope", x.altered(event * 32, 0, 0, 0), -2);
            taken("the last scope", x.altered(event * 32 + 21, 0, 0, 0), -2);
            due("no scope", x.altered(event * 32 + 22, 0, 0, 0), -2);
            due("no scope", x.altered(event * 32 + 31, 0, 0, 0), -2);
        }
        for (int key : new int[] {-1, -32, 191, 192, LOW, HIGH}) {
            due("key " + key, x.altered(key, 0, 0, 0), -2);
        }
        // an event that is not told, though its key could be one
        Rig r = new Rig();
        due("five events", r.text("e0,0;e0,0;e0,0;e0,0;e0,0;"), 5);
        due("the fifth", r.x.altered(4 * 32 + 21, 0, 20000, 0), 0);
        due("the fifth", r.x.altered(4 * 32 + 21, 0, 20000, 1), -1);
        due("a sixth", r.x.altered(5 * 32, 0, 0, 0), -2);
        due("of nothing", new MarkChains().altered(0, 0, 0, 0), -2);
    }

    // table: "an AREA (0 to 5)"
    private static void areas() {
        MarkChains x = full();
        // areas 0 to 3 have three athletes, 4 and 5 two: each has marks
        taken("area 0", x.table(0, 0), 0);
        taken("area 5", x.table(5, 0), 0);
        for (int area : new int[] {-1, 6, LOW, HIGH}) {
            due("area " + area, x.table(area, 0), -2);
        }
    }

    // season: "a YEAR (0 to 54)"
    private static void years() {
        MarkChains x = full();
        due("year 0", x.season(0, 0, -1), 10);
        due("year 1", x.season(0, 1, -1), 0);
        due("year 54", x.season(0, 54, -1), 0);
        for (int year : new int[] {-1, 55, LOW, HIGH}) {
            due("year " + year, x.season(0, year, -1), -2);
        }
    }

    // at: MINUTE 0 to 1439
    private static void minutes() {
        MarkChains x = full();
        due("minute 0", x.at(0, 0, 0, 0), 0);
        taken("minute 1439", x.at(0, 0, 0, 1439), -2);
        for (int minute : new int[] {-1, 1440, LOW, HIGH}) {
            due("minute " + minute, x.at(0, 0, 0, minute), -2);
        }
    }

    // ==== days, papers, bans, ratifying

    // days: "1 to 20000; TODAY becomes 20000 at most"
    private static void daysThatGoBy() {
        MarkChains x = new MarkChains();
        due("0", x.days(0), -1);
        due("1", x.days(1), 1);
        due("19999", x.days(19999), 20000);
        due("one more", x.days(1), 20000);
        due("today", x.is(5), 20000);
        MarkChains y = new MarkChains();
        due("20001", y.days(20001), -1);
        due("none went by", y.is(5), 0);
        due("20000", y.days(20000), 20000);
        due("20000 again", y.days(20000), 20000);
        due("back", y.back(), 1);
        due("back", y.back(), 0);
        due("none went by", y.is(5), 0);
        MarkChains z = new MarkChains();
        due("19998", z.days(19998), 19998);
        due("1", z.days(1), 19999);
        due("2", z.days(2), 20000);
        due("back", z.back(), 2);
        due("as it was", z.is(5), 19999);
    }

    // paper: "bits 0 to 63"
    private static void bitsOfPapers() {
        Rig r = new Rig();
        due("told", r.text("e0,0;p0,0;a0,0;m0,0,0,0,0,1,0,0,0;m0,0,0,0,0,1,0,0,42;"), 5);
        due("none", r.x.paper(0, 0), 0);
        due("the last bit", r.x.paper(0, 32), 32);
        due("the first bit", r.x.paper(0, 1), 33);
        due("all", r.x.paper(0, 63), 63);
        due("64", r.x.paper(0, 64), -1);
        due("-1", r.x.paper(0, -1), -1);
        due("they stay", r.x.mark(0, 8), 63);
        due("to those it has", r.x.paper(1, 21), 63);
        due("back", r.x.back(), 5);
        due("those it had", r.x.mark(1, 8), 42);
        // papers come to a mark that is struck out or ratified, too
        due("strike", r.x.strike(0), 0);
        due("paper", r.x.paper(0, 2), 63);
        due("ratify", r.x.ratify(1), 0);
        due("paper", r.x.paper(1, 1), 43);
    }

    // ban: "all his MARKS of DAYS from one to another are STRUCK OUT that are not yet"; "NONE: from above to"
    private static void bansFromTo() {
        int[][] bans = {{10, 12, 3}, {10, 10, 1}, {12, 12, 1}, {9, 9, 1}, {8, 8, 0}, {14, 14, 0}, {8, 9, 1}, {13, 14, 1}, {LOW, HIGH, 5},
            {LOW, 9, 1}, {LOW, 8, 0}, {13, HIGH, 1}, {14, HIGH, 0}, {LOW, LOW, 0}, {HIGH, HIGH, 0}, {-5, -1, 0}, {12, 11, -1}, {HIGH, LOW, -1}};
        for (int[] ban : bans) {
            Rig r = new Rig();
            due("told", r.text("e0,0;p0,0;a0,0;a0,0;"), 4);
            due("days", r.x.days(20), 20);
            due("marks", r.text("m0,0,0,9,0,1,0,0,0;m0,0,0,10,0,1,0,0,0;m0,0,0,11,0,1,0,0,0;m0,0,0,12,0,1,0,0,0;m0,0,0,13,0,1,0,0,0;"
                    + "m0,1,0,11,0,1,0,0,0;"), 6);
            due("ban " + ban[0] + " " + ban[1], r.x.ban(0, ban[0], ban[1]), ban[2]);
            due("struck out", r.x.is(9), Math.max(ban[2], 0));
            due("deeds", r.x.is(6), ban[2] < 0 ? 3 : 4);
            for (int k = 0; k < 5; k++) {
                boolean in = 9 + k >= ban[0] && 9 + k <= ban[1];
                due("struck out " + k, r.x.mark(k, 11), in ? 20 : -1);
            }
            due("not his", r.x.mark(5, 11), -1);
        }
    }

    // ratify: "the first that fits"
    private static void ratifyTellsTheFirstThatFits() {
        Rig r = new Rig();
        due("told", r.text("e0,5;p0,0;a0,0;m0,0,0,0,0,1,5,0,0;m0,0,0,0,0,1,6,0,0;m0,0,0,0,0,1,6,0,0;"), 6);
        due("its wind is not above", r.x.ratify(0), 0);
        due("its wind is above", r.x.ratify(1), -5);
        due("not ratified", r.x.mark(1, 10), -1);
        due("strike", r.x.strike(0), 0);
        due("strike", r.x.strike(1), 0);
        due("it is, ahead of struck out", r.x.ratify(0), -3);
        due("struck out, ahead of not good", r.x.ratify(1), -4);
        due("needs", r.needs("v=2;"), 1);
        due("it is, ahead of not good", r.x.ratify(0), -3);
        due("not good by a need", r.x.ratify(2), -5);
        due("no such", r.x.ratify(3), -2);
        due("good no more, but ratified", r.x.is(10), 1);
        due("for ever", r.x.days(20000), 20000);
        due("struck out for ever", r.x.strike(0), -3);
        due("on its day", r.x.mark(0, 11), 0);
    }

    // ==== DEEDS

    // "the latest 12 can be taken back, the latest first"
    private static void twelveDeeds() {
        for (int done = 1; done <= 26; done++) {
            MarkChains x = new MarkChains();
            for (int n = 1; n <= done; n++) {
                due("days", x.days(1), n);
                due("deeds", x.is(6), Math.min(n, 12));
            }
            int kept = Math.min(done, 12);
            for (int n = 1; n <= kept; n++) {
                due("back", x.back(), kept - n);
                due("the latest first", x.is(5), done - n);
                due("deeds", x.is(6), kept - n);
            }
            due("none", x.back(), -1);
            due("none", x.back(), -1);
            due("what can't be taken back stays", x.is(5), done - kept);
        }
        // each of the kinds as the thirteenth takes the place of the first
        String[] last = {"text", "needs", "score", "ratify", "strike", "ban", "paper", "days"};
        for (int kind = 0; kind < last.length; kind++) {
            Rig r = new Rig();
            due("told", r.text("e0,0;p0,0;a0,0;m0,0,0,0,0,1,0,0,0;"), 4);
            for (int n = 1; n <= 11; n++) {
                due("days", r.x.days(1), n);
            }
            due("twelve", r.x.is(6), 12);
            due(last[kind], didDeed(r, kind), 1);
            due("twelve still", r.x.is(6), 12);
            for (int n = 11; n >= 0; n--) {
                due("back", r.x.back(), n);
            }
            due("none", r.x.back(), -1);
            due("the first text stays", r.x.is(3), 1);
            due("all days are taken back", r.x.is(5), 0);
            due("and the last", r.x.is(4) + r.x.is(9) + r.x.is(10) + r.x.mark(0, 8), 0);
            due("and its score", r.x.points(0), 999999);
        }
    }

    /** 1: the deed was done. */
    private static int didDeed(Rig r, int kind) {
        switch (kind) {
            case 0:
                return r.text("e0,0;");
            case 1:
                return r.needs("v=1;");
            case 2:
                return r.score("v");
            case 3:
                return r.x.ratify(0) == r.x.is(5) ? 1 : 0;
            case 4:
                return r.x.strike(0) == r.x.is(5) ? 1 : 0;
            case 5:
                return r.x.ban(0, 0, 0);
            case 6:
                return r.x.paper(0, 1);
            default:
                return r.x.days(1) == 12 ? 1 : 0;
        }
    }

    // "each that was done": a refused call takes no deed's place, not the thirteenth's either
    private static void refusedCallsAreNoDeeds() {
        Rig r = new Rig();
        due("told", r.text("e0,0;p0,0;a0,0;m0,0,0,0,0,1,1,0,0;"), 4);
        for (int n = 1; n <= 11; n++) {
            due("days", r.x.days(1), n);
        }
        int refused = r.text("?") + r.needs("?") + r.score("?") + r.acts("?") + r.acts("r0;") + r.x.days(0) + r.x.ratify(0) + r.x.ratify(1)
                + r.x.strike(1) + r.x.ban(1, 0, 0) + r.x.ban(0, 1, 0) + r.x.paper(0, 64) + r.x.feed(0, 0, 0, 0, 0) + r.x.end(0);
        due("refused", refused, -1 - 1 - 1 - 1 - 1 - 5 - 2 - 2 - 1 - 1 - 1 + 20);
        due("twelve", r.x.is(6), 12);
        for (int n = 11; n >= 1; n--) {
            due("back", r.x.back(), n);
            due("days", r.x.is(5), n - 1);
        }
        due("the text", r.x.back(), 0);
        due("no marks", r.x.is(3), 0);
        due("none", r.x.back(), -1);
    }

    // calls that are done are deeds, though nothing is otherwise behind them
    private static void deedsThatChangeNothing() {
        Rig r = new Rig();
        due("told", r.text("e0,0;p0,0;a0,0;m0,0,0,0,0,1,0,0,0;"), 4);
        due("deeds", r.x.is(6), 1);
        due("an empty text", r.text(""), 0);
        due("empty needs", r.needs(""), 0);
        due("an empty score", r.score(""), 0);
        due("a ban of none", r.x.ban(0, 1, 2), 0);
        due("papers of none", r.x.paper(0, 0), 0);
        due("deeds", r.x.is(6), 6);
        due("empty acts are none", r.acts(""), 0);
        due("acts", r.acts("b0,1,2;p0,0;d20000;d1;"), 4);
        due("deeds", r.x.is(6), 10);
        due("back", r.x.back(), 9);
        due("today", r.x.is(5), 20000);
        due("back", r.x.back(), 8);
        due("today", r.x.is(5), 0);
    }

    // back: "NONE: none"
    private static void backOfNone() {
        Rig r = new Rig();
        due("none", r.x.back(), -1);
        due("told", r.text("e0,0;"), 1);
        due("one", r.x.back(), 0);
        r.tape("e0,0;");
        String ahead = State.of(r.x);
        due("none", r.x.back(), -1);
        CHECK.that("back of none did something", State.of(r.x).equals(ahead));
        due("what was on the tape", r.x.text(), 1);
        due("one deed", r.x.is(6), 1);
    }

    // a BAN that is taken back leaves those STRUCK OUT that were so ahead of it
    private static void backOfABan() {
        Rig r = new Rig();
        due("told", r.text("e0,-1;p0,0;a0,0;m0,0,0,0,0,1,0,0,0;m0,0,0,0,0,2,0,0,0;m0,0,0,0,0,3,0,0,0;m0,0,0,0,0,4,0,0,0;"), 7);
        due("strike", r.x.strike(0), 0);
        due("days", r.x.days(4), 4);
        due("strike", r.x.strike(3), 4);
        due("ban", r.x.ban(0, 0, 0), 2);
        due("all are struck out", r.x.is(9), 4);
        due("back", r.x.back(), 4);
        int[] struck = {0, -1, -1, 4};
        for (int k = 0; k < struck.length; k++) {
            due("struck out " + k, r.x.mark(k, 11), struck[k]);
        }
        due("a ban of none", r.x.ban(0, 1, 1), 0);
        due("back", r.x.back(), 4);
        due("two still", r.x.is(9), 2);
        due("back of a strike", r.x.back(), 3);
        due("one still", r.x.is(9), 1);
        due("one still", r.x.mark(0, 11), 0);
    }

    // a text that is taken back goes with its MARKS alone, wherever they are by their days
    private static void backOfATextAhead() {
        Rig r = new Rig();
        due("told", r.text("e0,-1;p0,0;a0,0;"), 3);
        due("days", r.x.days(9), 9);
        due("marks", r.text("m0,0,0,5,0,7,0,0,0;m0,0,0,3,0,8,0,0,0;"), 2);
        due("ratify", r.acts("r0;r1;"), 2);
        due("marks", r.text("m0,0,0,0,0,9,0,0,0;m0,0,0,4,0,7,0,0,0;m0,0,0,9,0,1,0,0,0;"), 3);
        due("ratify", r.acts("r2;r3;r4;"), 3);
        due("five", r.x.chain(0, 0, 9, -1), 5);
        for (int deeds = 8; deeds >= 6; deeds--) {
            due("back", r.x.back(), deeds);
        }
        due("two", r.x.chain(0, 0, 9, -1), 2);
        due("the text", r.x.back(), 5);
        due("two marks", r.x.is(3), 2);
        due("the first", r.x.chain(0, 0, 9, 0), 1);
        due("the last", r.x.chain(0, 0, 9, 1), 0);
        due("none behind", r.x.chain(0, 0, 9, 2), -2);
        due("one that comes then is not ratified", r.text("m0,0,0,4,0,7,0,0,0;"), 1);
        due("not ratified", r.x.mark(2, 10), -1);
        due("not struck out", r.x.mark(2, 11), -1);
        due("ratify", r.x.ratify(2), 9);
        due("between them", r.x.chain(0, 0, 9, 1), 2);
    }

    // a deed behind one that was taken back takes its place
    private static void deedsAfterBack() {
        MarkChains x = new MarkChains();
        for (int n = 1; n <= 14; n++) {
            due("days", x.days(1), n);
        }
        due("back", x.back(), 11);
        due("back", x.back(), 10);
        due("days", x.days(100), 112);
        due("eleven", x.is(6), 11);
        due("days", x.days(100), 212);
        due("twelve", x.is(6), 12);
        due("days", x.days(100), 312);
        due("twelve", x.is(6), 12);
        int[] todays = {212, 112, 12, 11, 10, 9, 8, 7, 6, 5, 4, 3};
        for (int i = 0; i < todays.length; i++) {
            due("back", x.back(), 11 - i);
            due("today", x.is(5), todays[i]);
        }
        due("none", x.back(), -1);
        due("today", x.is(5), 3);
    }
}
