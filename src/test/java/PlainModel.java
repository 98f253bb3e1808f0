import java.util.ArrayDeque;
import java.util.ArrayList;
import java.util.Arrays;
import java.util.Comparator;
import java.util.HashSet;
import java.util.LinkedHashSet;
import java.util.List;
import java.util.Set;
import java.util.TreeMap;
import java.util.TreeSet;

/**
 * What the document says, as it says it, without regard to speed: whole states are copied for
 * back(), days are counted one by one, all sets of papers are tried. Its methods bear the names of the face.
 */
final class PlainModel {
    static final int EVENT = 0, ATHLETE = 1, PLACE = 2, DAY = 3, MINUTE = 4, VALUE = 5, WIND = 6, SHOE = 7, PAPERS = 8,
        RATIFIED = 9, STRUCK = 10;

    interface Num {
        int of(int[] mark);
    }

    interface Truth {
        boolean of(int[] mark);
    }

    static final class Fault extends RuntimeException {
        private static final long serialVersionUID = 1L;
        final int at;

        Fault(int at) {
            this.at = at;
        }
    }

    static final class State {
        final List<int[]> events = new ArrayList<>();
        final List<int[]> places = new ArrayList<>();
        final List<int[]> athletes = new ArrayList<>();
        final List<int[]> marks = new ArrayList<>();
        List<Truth> needs = new ArrayList<>();
        Num score = null;
        int today = 0;

        State copy() {
            State to = new State();
            events.forEach(x -> to.events.add(x.clone()));
            places.forEach(x -> to.places.add(x.clone()));
            athletes.forEach(x -> to.athletes.add(x.clone()));
            marks.forEach(x -> to.marks.add(x.clone()));
            to.needs = new ArrayList<>(needs);
            to.score = score;
            to.today = today;
            return to;
        }
    }

    private State s = new State();
    private final ArrayDeque<State> deeds = new ArrayDeque<>();
    private String tape = "";
    private int fault = -1;
    private int ended = -1;
    private List<Integer> rows = new ArrayList<>();
    private String written = "";

    // ---- tape

    public int feed(int a, int b, int c, int d, int e) {
        if (tape.length() + 20 > 600) {
            return -1;
        }
        StringBuilder more = new StringBuilder(tape);
        for (int word : new int[] {a, b, c, d, e}) {
            more.append((char) (word >>> 24)).append((char) (word >>> 16 & 255)).append((char) (word >>> 8 & 255)).append((char) (word & 255));
        }
        tape = more.toString();
        return tape.length();
    }

    public int end(int n) {
        if (n < 0 || n > tape.length()) {
            return -1;
        }
        tape = tape.substring(0, n);
        return n;
    }

    private String take() {
        String all = tape;
        tape = "";
        fault = -1;
        return all;
    }

    private void deed(State before) {
        deeds.addLast(before);
        if (deeds.size() > 12) {
            deeds.removeFirst();
        }
    }

    // ---- THE TEXT

    /** Reads a number at place at[0]; at[0] is behind it then. */
    private static int number(String t, int[] at) {
        int i = at[0];
        boolean minus = i < t.length() && t.charAt(i) == '-';
        if (minus) {
            i++;
        }
        int from = i;
        while (i < t.length() && Character.isDigit(t.charAt(i)) && t.charAt(i) < 128) {
            if (i - from == 7) {
                throw new Fault(i);
            }
            i++;
        }
        if (i == from) {
            throw new Fault(i);
        }
        at[0] = i;
        int n = Integer.parseInt(t.substring(from, i));
        return minus ? -n : n;
    }

    private static void sign(String t, int[] at, char wanted) {
        if (at[0] >= t.length() || t.charAt(at[0]) != wanted) {
            throw new Fault(at[0]);
        }
        at[0]++;
    }

    public int text() {
        String t = take();
        State before = s.copy();
        int items = 0;
        try {
            int[] at = {0};
            while (at[0] < t.length()) {
                item(t, at);
                items++;
            }
        } catch (Fault f) {
            fault = f.at;
            s = before;
            return -1;
        }
        deed(before);
        return items;
    }

    private void item(String t, int[] at) {
        int[][] bounds;
        List<int[]> rows;
        int most;
        switch (t.charAt(at[0])) {
            case 'e': bounds = new int[][] {{0, 1}, {-1, 99}}; rows = s.events; most = 6; break;
            case 'p': bounds = new int[][] {{0, 5}, {0, 5000}}; rows = s.places; most = 8; break;
            case 'a': bounds = new int[][] {{-30000, 20000}, {0, 5}}; rows = s.athletes; most = 16; break;
            case 'm': bounds = new int[][] {{0, s.events.size() - 1}, {0, s.athletes.size() - 1}, {0, s.places.size() - 1},
                {0, s.today}, {0, 1439}, {1, 1000000}, {-99, 99}, {0, 99}, {0, 63}}; rows = s.marks; most = 60; break;
            default: throw new Fault(at[0]);
        }
        if (rows.size() == most) {
            throw new Fault(at[0]);
        }
        at[0]++;
        int[] row = Arrays.copyOf(new int[0], rows == s.marks ? 11 : 2);
        for (int i = 0; i < bounds.length; i++) {
            int start = at[0];
            int n = number(t, at);
            if (n < bounds[i][0] || n > bounds[i][1]) {
                throw new Fault(start);
            }
            row[i] = n;
            sign(t, at, i == bounds.length - 1 ? ';' : ',');
        }
        if (rows == s.marks) {
            row[RATIFIED] = -1;
            row[STRUCK] = -1;
        }
        rows.add(row);
    }

    // ---- NEEDS and SCORE, by recursive descent

    private final class Parser {
        final String t;
        int at = 0;
        int things = 0;

        Parser(String t) {
            this.t = t;
        }

        boolean sees(char c) {
            return at < t.length() && t.charAt(at) == c;
        }

        Truth cond(int depth) {
            Truth left = both(depth);
            while (sees('|')) {
                at++;
                Truth a = left;
                Truth b = both(depth);
                left = m -> a.of(m) || b.of(m);
            }
            return left;
        }

        Truth both(int depth) {
            Truth left = test(depth);
            while (sees('&')) {
                at++;
                Truth a = left;
                Truth b = test(depth);
                left = m -> a.of(m) && b.of(m);
            }
            return left;
        }

        Truth test(int depth) {
            if (sees('!') || sees('(')) {
                if (depth == 6) {
                    throw new Fault(at);
                }
                boolean not = sees('!');
                at++;
                if (not) {
                    Truth a = test(depth + 1);
                    return m -> !a.of(m);
                }
                Truth a = cond(depth + 1);
                sign(')');
                return a;
            }
            Num left = sum();
            if (!sees('<') && !sees('>') && !sees('=')) {
                throw new Fault(at);
            }
            char op = t.charAt(at++);
            Num right = sum();
            return m -> op == '<' ? left.of(m) < right.of(m) : op == '>' ? left.of(m) > right.of(m) : left.of(m) == right.of(m);
        }

        void sign(char c) {
            if (!sees(c)) {
                throw new Fault(at);
            }
            at++;
        }

        Num sum() {
            Num left = product();
            while (sees('+') || sees('-')) {
                boolean plus = t.charAt(at++) == '+';
                Num a = left;
                Num b = product();
                left = m -> plus ? a.of(m) + b.of(m) : a.of(m) - b.of(m);
            }
            return left;
        }

        Num product() {
            Num left = thing();
            while (sees('*') || sees('/')) {
                boolean times = t.charAt(at++) == '*';
                Num a = left;
                Num b = thing();
                left = m -> times ? a.of(m) * b.of(m) : b.of(m) == 0 ? 0 : a.of(m) / b.of(m);
            }
            return left;
        }

        Num thing() {
            if (things == 60 || at >= t.length()) {
                throw new Fault(at);
            }
            things++;
            char c = t.charAt(at);
            if (c >= '0' && c <= '9') {
                int[] place = {at};
                int n = number(t, place);
                at = place[0];
                return m -> n;
            }
            if ("vwshgedmlbxyz".indexOf(c) < 0) {
                throw new Fault(at);
            }
            at++;
            switch (c) {
                case 'v': return m -> m[VALUE];
                case 'w': return m -> m[WIND];
                case 's': return m -> m[SHOE];
                case 'h': return m -> s.places.get(m[PLACE])[1];
                case 'g': return m -> age(m);
                case 'e': return m -> m[EVENT];
                case 'd': return m -> m[DAY];
                case 'm': return m -> m[MINUTE];
                case 'l': return m -> s.events.get(m[EVENT])[1];
                case 'b': return m -> s.events.get(m[EVENT])[0];
                default: return m -> (m[PAPERS] & 1 << c - 'x') != 0 ? 1 : 0;
            }
        }
    }

    public int needs() {
        String t = take();
        List<Truth> all = new ArrayList<>();
        try {
            Parser p = new Parser(t);
            while (p.at < t.length()) {
                if (all.size() == 8) {
                    throw new Fault(p.at);
                }
                all.add(p.cond(0));
                p.sign(';');
            }
        } catch (Fault f) {
            fault = f.at;
            return -1;
        }
        deed(s.copy());
        s.needs = all;
        return all.size();
    }

    public int score() {
        String t = take();
        Num sum = null;
        int things = 0;
        try {
            if (!t.isEmpty()) {
                Parser p = new Parser(t);
                sum = p.sum();
                things = p.things;
                if (p.at < t.length()) {
                    throw new Fault(p.at);
                }
            }
        } catch (Fault f) {
            fault = f.at;
            return -1;
        }
        deed(s.copy());
        s.score = sum;
        return things;
    }

    public int fault() {
        return fault;
    }

    // ---- what is told

    private int age(int[] m) {
        return (m[DAY] - s.athletes.get(m[ATHLETE])[0]) / 365;
    }

    private int[] markOf(int k) {
        return k >= 0 && k < s.marks.size() ? s.marks.get(k) : null;
    }

    private static boolean day(int d) {
        return d >= 0 && d <= 20000;
    }

    private boolean event(int e) {
        return e >= 0 && e < s.events.size();
    }

    private boolean athlete(int a) {
        return a >= 0 && a < s.athletes.size();
    }

    private static boolean scope(int x) {
        return x >= 0 && x <= 21;
    }

    public int is(int what) {
        switch (what) {
            case 0: return s.events.size();
            case 1: return s.places.size();
            case 2: return s.athletes.size();
            case 3: return s.marks.size();
            case 4: return s.needs.size();
            case 5: return s.today;
            case 6: return deeds.size();
            case 7: return tape.length();
            case 8: return (int) s.marks.stream().filter(m -> m[RATIFIED] >= 0 && m[STRUCK] < 0).count();
            case 9: return (int) s.marks.stream().filter(m -> m[STRUCK] >= 0).count();
            case 10: return (int) s.marks.stream().filter(m -> m[RATIFIED] >= 0).count();
            case 11: return (int) s.marks.stream().filter(m -> lack(m) == -1).count();
            default: return -1;
        }
    }

    public int mark(int k, int what) {
        int[] m = markOf(k);
        if (m == null || what < 0 || what > 11) {
            return -1000000;
        }
        return what < 9 ? m[what] : what == 9 ? age(m) : what == 10 ? m[RATIFIED] : m[STRUCK];
    }

    public int told(int sort, int i, int what) {
        if (sort < 0 || sort > 2 || what < 0 || what > 1) {
            return -1000000;
        }
        List<int[]> rows = sort == 0 ? s.events : sort == 1 ? s.places : s.athletes;
        return i < 0 || i >= rows.size() ? -1000000 : rows.get(i)[what];
    }

    private int lack(int[] m) {
        for (int i = 0; i < s.needs.size(); i++) {
            if (!s.needs.get(i).of(m)) {
                return i;
            }
        }
        int limit = s.events.get(m[EVENT])[1];
        return limit >= 0 && m[WIND] > limit ? 8 : -1;
    }

    public int good(int k) {
        return markOf(k) == null ? -2 : lack(markOf(k));
    }

    // ---- deeds

    public int ratify(int k) {
        int[] m = markOf(k);
        if (m == null) {
            return -2;
        }
        if (m[RATIFIED] >= 0) {
            return -3;
        }
        if (m[STRUCK] >= 0) {
            return -4;
        }
        if (lack(m) != -1) {
            return -5;
        }
        deed(s.copy());
        m[RATIFIED] = s.today;
        return s.today;
    }

    public int strike(int k) {
        int[] m = markOf(k);
        if (m == null) {
            return -2;
        }
        if (m[STRUCK] >= 0) {
            return -3;
        }
        deed(s.copy());
        m[STRUCK] = s.today;
        return s.today;
    }

    public int ban(int athlete, int from, int to) {
        if (!athlete(athlete) || from > to) {
            return -1;
        }
        deed(s.copy());
        int count = 0;
        for (int[] m : s.marks) {
            if (m[ATHLETE] == athlete && from <= m[DAY] && m[DAY] <= to && m[STRUCK] < 0) {
                m[STRUCK] = s.today;
                count++;
            }
        }
        return count;
    }

    public int paper(int k, int bits) {
        int[] m = markOf(k);
        if (m == null || bits < 0 || bits > 63) {
            return -1;
        }
        deed(s.copy());
        m[PAPERS] |= bits;
        return m[PAPERS];
    }

    public int days(int n) {
        if (n < 1 || n > 20000) {
            return -1;
        }
        deed(s.copy());
        s.today = Math.min(20000, s.today + n);
        return s.today;
    }

    public int back() {
        if (deeds.isEmpty()) {
            return -1;
        }
        s = deeds.removeLast();
        return deeds.size();
    }

    public int acts() {
        String t = take();
        List<int[]> all = new ArrayList<>();
        try {
            int[] at = {0};
            while (at[0] < t.length()) {
                char c = t.charAt(at[0]);
                int many = c == 'b' ? 3 : c == 'p' ? 2 : "rsd".indexOf(c) >= 0 ? 1 : 0;
                if (many == 0 || all.size() == 30) {
                    throw new Fault(at[0]);
                }
                at[0]++;
                int[] act = {c, 0, 0, 0};
                for (int i = 1; i <= many; i++) {
                    act[i] = number(t, at);
                    sign(t, at, i == many ? ';' : ',');
                }
                all.add(act);
            }
        } catch (Fault f) {
            fault = f.at;
            return -1;
        }
        rows = new ArrayList<>();
        ended = -1;
        for (int i = 0; i < all.size(); i++) {
            int[] a = all.get(i);
            int told = a[0] == 'r' ? ratify(a[1]) : a[0] == 's' ? strike(a[1]) : a[0] == 'd' ? days(a[1])
                : a[0] == 'p' ? paper(a[1], a[2]) : ban(a[1], a[2], a[3]);
            if (told < 0) {
                ended = i;
                break;
            }
            rows.add(told);
        }
        return rows.size();
    }

    public int ended() {
        return ended;
    }

    public int row(int k) {
        return k >= 0 && k < rows.size() ? rows.get(k) : -1;
    }

    // ---- chains

    private boolean in(int k, int scope) {
        int[] m = s.marks.get(k);
        int area = s.athletes.get(m[ATHLETE])[1];
        int age = age(m);
        switch (scope) {
            case 0: return true;
            case 1: case 2: case 3: case 4: case 5: case 6: return area + 1 == scope;
            case 15: return age < 18;
            case 16: return age < 20;
            case 17: return age < 23;
            case 18: return age >= 35;
            case 19: return age >= 40;
            case 20: return age >= 45;
            case 21: return age >= 50;
            default: return m[PLACE] + 7 == scope;
        }
    }

    public int within(int k, int scope) {
        return markOf(k) == null || !scope(scope) ? -1 : in(k, scope) ? 1 : 0;
    }

    private boolean standsOn(int k, int day) {
        int[] m = s.marks.get(k);
        boolean ratified = m[RATIFIED] != -1 && m[RATIFIED] <= day;
        boolean struck = m[STRUCK] != -1 && m[STRUCK] <= day;
        return ratified && !struck;
    }

    private int valueOf(int k) {
        return s.marks.get(k)[VALUE];
    }

    private int dayOf(int k) {
        return s.marks.get(k)[DAY];
    }

    private int whoOf(int k) {
        return s.marks.get(k)[ATHLETE];
    }

    private int gain(int k, int other) {
        int event = s.marks.get(k)[EVENT];
        return s.events.get(event)[0] == 1 ? valueOf(k) - valueOf(other) : valueOf(other) - valueOf(k);
    }

    private Comparator<Integer> byTime() {
        return Comparator.<Integer>comparingInt(k -> dayOf(k)).thenComparingInt(k -> s.marks.get(k)[MINUTE]).thenComparingInt(k -> k);
    }

    private Comparator<Integer> byValue() {
        return Comparator.<Integer>comparingInt(k -> s.events.get(s.marks.get(k)[EVENT])[0] == 1 ? -valueOf(k) : valueOf(k)).thenComparing(byTime());
    }

    /** The marks of an event and a scope that stand; always: one that counts as standing; never: one that does not. */
    private List<Integer> standing(int event, int scope, int day, int always, int never) {
        List<Integer> all = new ArrayList<>();
        for (int k = 0; k < s.marks.size(); k++) {
            if (s.marks.get(k)[EVENT] == event && in(k, scope) && k != never && (k == always || standsOn(k, day))) {
                all.add(k);
            }
        }
        all.sort(byTime());
        return all;
    }

    private List<Integer> theChain(int event, int scope, int day, int always, int never) {
        List<Integer> chain = new ArrayList<>();
        for (int k : standing(event, scope, day, always, never)) {
            if (chain.isEmpty() || gain(k, chain.get(chain.size() - 1)) >= 0) {
                chain.add(k);
            }
        }
        return chain;
    }

    private List<Integer> theChain(int event, int scope, int day) {
        return theChain(event, scope, day, -1, -1);
    }

    private boolean asks(int event, int scope, int day) {
        return event(event) && scope(scope) && day(day);
    }

    private static int pick(List<Integer> all, int i) {
        return i == -1 ? all.size() : i < -1 || i >= all.size() ? -2 : all.get(i);
    }

    public int chain(int event, int scope, int day, int i) {
        return asks(event, scope, day) ? pick(theChain(event, scope, day), i) : -2;
    }

    public int record(int event, int scope, int day) {
        if (!asks(event, scope, day)) {
            return -2;
        }
        List<Integer> c = theChain(event, scope, day);
        return c.isEmpty() ? -1 : valueOf(c.get(c.size() - 1));
    }

    private int holdersOf(int event, int scope, int day) {
        List<Integer> c = theChain(event, scope, day);
        int bits = 0;
        for (int k : c) {
            if (valueOf(k) == valueOf(c.get(c.size() - 1))) {
                bits |= 1 << whoOf(k);
            }
        }
        return bits;
    }

    public int holders(int event, int scope, int day) {
        return asks(event, scope, day) ? holdersOf(event, scope, day) : -2;
    }

    public int ties(int event, int scope, int day) {
        if (!asks(event, scope, day)) {
            return -2;
        }
        List<Integer> c = theChain(event, scope, day);
        Set<Integer> values = new HashSet<>();
        c.forEach(k -> values.add(valueOf(k)));
        return c.size() - values.size();
    }

    private int firstBetter(List<Integer> c, int i, int till) {
        for (int j = i + 1; j < c.size(); j++) {
            if (gain(c.get(j), c.get(i)) > 0) {
                return dayOf(c.get(j));
            }
        }
        return till;
    }

    public int held(int event, int scope, int athlete, int day) {
        if (!asks(event, scope, day) || !athlete(athlete)) {
            return -2;
        }
        List<Integer> c = theChain(event, scope, day);
        Set<Integer> days = new HashSet<>();
        for (int i = 0; i < c.size(); i++) {
            if (whoOf(c.get(i)) == athlete) {
                for (int d = dayOf(c.get(i)); d < firstBetter(c, i, day); d++) {
                    days.add(d);
                }
            }
        }
        return days.size();
    }

    public int stood(int event, int scope, int day, int what) {
        if (!asks(event, scope, day) || what < 0 || what > 1) {
            return -2;
        }
        List<Integer> c = theChain(event, scope, day);
        int longest = -1;
        int mark = -1;
        Set<Integer> seen = new HashSet<>();
        for (int i = 0; i < c.size(); i++) {
            if (seen.add(valueOf(c.get(i)))) {
                int length = firstBetter(c, i, day) - dayOf(c.get(i));
                if (length > longest) {
                    longest = length;
                    mark = c.get(i);
                }
            }
        }
        return what == 1 ? mark : Math.max(longest, 0);
    }

    public int altered(int key, int one, int other, int what) {
        if (key < 0 || key > 191 || what < 0 || what > 3 || !asks(key / 32, key % 32, one) || !day(other)) {
            return -2;
        }
        TreeSet<Integer> first = new TreeSet<>(theChain(key / 32, key % 32, one));
        TreeSet<Integer> second = new TreeSet<>(theChain(key / 32, key % 32, other));
        TreeSet<Integer> gone = new TreeSet<>(first);
        gone.removeAll(second);
        second.removeAll(first);
        TreeSet<Integer> asked = what < 2 ? second : gone;
        return what % 2 == 0 ? asked.size() : asked.isEmpty() ? -1 : asked.first();
    }

    private List<Integer> theList(int event, int scope, int day) {
        List<Integer> all = standing(event, scope, day, -1, -1);
        all.sort(byValue());
        Set<Integer> seen = new HashSet<>();
        all.removeIf(k -> !seen.add(whoOf(k)));
        return all;
    }

    public int list(int event, int scope, int day, int i) {
        return asks(event, scope, day) ? pick(theList(event, scope, day), i) : -2;
    }

    public int rank(int k, int scope) {
        return markOf(k) == null || !scope(scope) ? -2 : theList(markOf(k)[EVENT], scope, s.today).indexOf(k);
    }

    public int wished(int event, int scope, int day) {
        int r = record(event, scope, day);
        if (r < 0) {
            return r;
        }
        int wish = s.events.get(event)[0] == 0 ? r - 1 : r + 1;
        return wish > 1000000 ? 0 : wish;
    }

    public int would(int k) {
        if (markOf(k) == null || markOf(k)[RATIFIED] >= 0) {
            return -1;
        }
        int count = 0;
        for (int scope = 0; scope <= 21; scope++) {
            count += theChain(markOf(k)[EVENT], scope, s.today, k, -1).contains(k) ? 1 : 0;
        }
        return count;
    }

    // ---- points

    public int points(int k) {
        int[] m = markOf(k);
        if (m == null) {
            return -1;
        }
        if (s.score == null) {
            return s.events.get(m[EVENT])[0] == 0 ? 1000000 - m[VALUE] : m[VALUE];
        }
        int n = s.score.of(m);
        return n < 0 ? 0 : n > 1000000 ? 1000000 : n;
    }

    private int together(int day, int athlete, int area) {
        TreeMap<Integer, Integer> best = new TreeMap<>();
        for (int k = 0; k < s.marks.size(); k++) {
            if (standsOn(k, day) && (athlete < 0 || whoOf(k) == athlete) && (area < 0 || s.athletes.get(whoOf(k))[1] == area)) {
                best.merge(s.marks.get(k)[EVENT], points(k), Math::max);
            }
        }
        return best.values().stream().mapToInt(x -> x).sum();
    }

    public int champion(int day, int what) {
        if (!day(day) || what < 0 || what > 1) {
            return -2;
        }
        int most = 0;
        int who = -1;
        for (int a = s.athletes.size() - 1; a >= 0; a--) {
            int n = together(day, a, -1);
            if (n > 0 && n >= most) {
                most = n;
                who = a;
            }
        }
        return what == 0 ? who : most;
    }

    public int table(int area, int day) {
        return area < 0 || area > 5 || !day(day) ? -2 : together(day, -1, area);
    }

    // ---- meetings

    private boolean oneMeeting(int[] a, int[] b) {
        return a[EVENT] == b[EVENT] && a[PLACE] == b[PLACE] && a[DAY] == b[DAY];
    }

    public int placed(int k) {
        if (markOf(k) == null) {
            return -2;
        }
        if (markOf(k)[STRUCK] >= 0) {
            return -1;
        }
        int count = 0;
        for (int j = 0; j < s.marks.size(); j++) {
            if (s.marks.get(j)[STRUCK] < 0 && oneMeeting(s.marks.get(j), markOf(k)) && gain(j, k) > 0) {
                count++;
            }
        }
        return count;
    }

    public int duel(int one, int other) {
        if (!athlete(one) || !athlete(other) || one == other) {
            return -2;
        }
        Set<List<Integer>> meetings = new LinkedHashSet<>();
        s.marks.forEach(m -> meetings.add(List.of(m[EVENT], m[PLACE], m[DAY])));
        int count = 0;
        for (List<Integer> meeting : meetings) {
            List<Integer> his = new ArrayList<>();
            List<Integer> others = new ArrayList<>();
            for (int k = 0; k < s.marks.size(); k++) {
                int[] m = s.marks.get(k);
                if (m[STRUCK] < 0 && List.of(m[EVENT], m[PLACE], m[DAY]).equals(meeting)) {
                    if (m[ATHLETE] == one) {
                        his.add(k);
                    } else if (m[ATHLETE] == other) {
                        others.add(k);
                    }
                }
            }
            his.sort(byValue());
            others.sort(byValue());
            if (!his.isEmpty() && !others.isEmpty() && gain(his.get(0), others.get(0)) > 0) {
                count++;
            }
        }
        return count;
    }

    // ---- more of chains

    public int progress(int event, int scope, int day, int what) {
        if (!asks(event, scope, day) || what < 0 || what > 2) {
            return -2;
        }
        List<Integer> c = theChain(event, scope, day);
        int whole = 0;
        int widest = 0;
        int mark = -1;
        for (int i = 1; i < c.size(); i++) {
            int step = gain(c.get(i), c.get(i - 1));
            whole += step;
            if (step > widest) {
                widest = step;
                mark = c.get(i);
            }
        }
        return what == 0 ? whole : what == 1 ? widest : mark;
    }

    public int since(int k, int scope) {
        if (markOf(k) == null || !scope(scope)) {
            return -2;
        }
        for (int d = 0; d <= s.today; d++) {
            // Nothing changes on the other days; the first is looked at whatever it is.
            int known = d;
            boolean changes = s.marks.stream().anyMatch(m -> m[RATIFIED] == known || m[STRUCK] == known);
            if ((d == 0 || changes) && theChain(markOf(k)[EVENT], scope, d).contains(k)) {
                return d;
            }
        }
        return -1;
    }

    public int without(int k, int scope, int what) {
        if (markOf(k) == null || !scope(scope) || what < 0 || what > 1) {
            return -2;
        }
        int e = markOf(k)[EVENT];
        List<Integer> then = theChain(e, scope, s.today, -1, k);
        if (what == 1) {
            return then.isEmpty() ? -1 : valueOf(then.get(then.size() - 1));
        }
        then.removeAll(theChain(e, scope, s.today));
        return then.size();
    }

    public int personal(int athlete, int event, int i) {
        if (!athlete(athlete) || !event(event)) {
            return -2;
        }
        List<Integer> mine = new ArrayList<>();
        for (int k : standing(event, 0, s.today, -1, -1)) {
            if (whoOf(k) == athlete && (mine.isEmpty() || gain(k, mine.get(mine.size() - 1)) > 0)) {
                mine.add(k);
            }
        }
        return pick(mine, i);
    }

    public int season(int event, int year, int i) {
        if (!event(event) || year < 0 || year > 54) {
            return -2;
        }
        List<Integer> all = standing(event, 0, s.today, -1, -1);
        all.removeIf(k -> dayOf(k) < 365 * year || dayOf(k) > 365 * year + 364);
        all.sort(byValue());
        return pick(all, i);
    }

    public int at(int event, int scope, int day, int minute) {
        if (!asks(event, scope, day) || minute < 0 || minute > 1439) {
            return -2;
        }
        List<Integer> c = theChain(event, scope, s.today);
        c.removeIf(k -> dayOf(k) * 1440 + s.marks.get(k)[MINUTE] > day * 1440 + minute);
        return c.isEmpty() ? -1 : c.get(c.size() - 1);
    }

    public int missing(int k) {
        int[] m = markOf(k);
        if (m == null) {
            return -2;
        }
        int best = -1;
        for (int more = 0; more < 64; more++) {
            if ((more & m[PAPERS]) == 0) {
                int[] tried = m.clone();
                tried[PAPERS] |= more;
                if (lack(tried) == -1 && (best == -1 || Integer.bitCount(more) < Integer.bitCount(best))) {
                    best = more;
                }
            }
        }
        return best;
    }

    public int stands(int k, int what) {
        if (markOf(k) == null || what < 0 || what > 3) {
            return -2;
        }
        int count = 0;
        for (int scope = 0; scope <= 21; scope++) {
            if (in(k, scope)) {
                List<Integer> all = what < 2 ? theChain(markOf(k)[EVENT], scope, s.today) : theList(markOf(k)[EVENT], scope, s.today);
                int i = all.indexOf(k);
                count += i >= 0 && (what % 2 == 0 || i == (what == 1 ? all.size() - 1 : 0)) ? 1 : 0;
            }
        }
        return count;
    }

    public int holding(int event) {
        if (event != -1 && !event(event)) {
            return -2;
        }
        int bits = 0;
        for (int e = 0; e < s.events.size(); e++) {
            for (int scope = 0; scope <= 21; scope++) {
                bits |= event == -1 || e == event ? holdersOf(e, scope, s.today) : 0;
            }
        }
        return bits;
    }

    public int drought(int event, int scope, int day) {
        if (!asks(event, scope, day)) {
            return -2;
        }
        List<Integer> c = theChain(event, scope, day);
        int most = 0;
        for (int i = 0; i < c.size(); i++) {
            int next = i + 1 < c.size() ? dayOf(c.get(i + 1)) : day;
            most = Math.max(most, next - dayOf(c.get(i)));
        }
        return most;
    }

    public int write(int event, int scope, int day) {
        if (!asks(event, scope, day)) {
            return -2;
        }
        StringBuilder all = new StringBuilder();
        List<Integer> c = theChain(event, scope, day);
        for (int i = 0; i < c.size(); i++) {
            all.append(i > 0 ? " " : "");
            all.append(i > 0 && valueOf(c.get(i)) == valueOf(c.get(i - 1)) ? "=" : "");
            all.append(valueOf(c.get(i))).append('/').append(whoOf(c.get(i)));
        }
        written = all.substring(0, Math.min(400, all.length()));
        return written.length();
    }

    public int octet(int k) {
        return k >= 0 && k < written.length() ? written.charAt(k) : -1;
    }
}
