import java.util.Arrays;

/** Marks, their ratifying and striking out, and the chains of records that follow from them. */
public final class MarkChains {
    public static final int NONE = -1;

    private static final int OTHERS = -2;
    private static final int IT_IS = -3;
    private static final int IS_STRUCK = -4;
    private static final int NOT_GOOD = -5;
    private static final int UNKNOWN = -1000000;
    private static final int WIND_ALONE = 8;

    private static final int MOST_EVENTS = 6;
    private static final int MOST_PLACES = 8;
    private static final int MOST_ATHLETES = 16;
    private static final int MOST_MARKS = 60;
    private static final int MOST_NEEDS = 8;
    private static final int MOST_THINGS = 60;
    private static final int MOST_NESTED = 6;
    private static final int MOST_DIGITS = 7;
    private static final int MOST_ACTS = 30;
    private static final int MOST_DEEDS = 12;
    private static final int MOST_BYTES = 600;
    private static final int MOST_WRITTEN = 400;
    private static final int FEED_BYTES = 20;

    private static final int LAST_DAY = 20000;
    private static final int LAST_MINUTE = 1439;
    private static final int LAST_SCOPE = 21;
    private static final int LAST_AREA = 5;
    private static final int LAST_YEAR = 54;
    private static final int LAST_KEY = 191;
    private static final int KEY_STEP = 32;
    private static final int ALL_PAPERS = 63;
    private static final int MOST_VALUE = 1000000;
    private static final int MOST_POINTS = 1000000;
    private static final int YEAR = 365;

    private static final int EVENT_SORT = 0;
    private static final int PLACE_SORT = 1;
    private static final int ATHLETE_SORT = 2;
    private static final int MARK_SORT = 3;
    private static final int MARK_FIELDS = 9;
    private static final int PAIR_FIELDS = 2;

    private static final int DEED_TEXT = 0;
    private static final int DEED_NEEDS = 1;
    private static final int DEED_SCORE = 2;
    private static final int DEED_RATIFY = 3;
    private static final int DEED_STRIKE = 4;
    private static final int DEED_PAPER = 5;
    private static final int DEED_DAYS = 6;

    /** Sets of the three papers that needs can see: the fewest first, of like ones the least. */
    private static final int[] PAPER_SETS = {1, 2, 4, 3, 5, 6, 7};

    private final Tape tape = new Tape();
    private final Book book = new Book();
    private final ItemReader itemReader = new ItemReader(tape, book);
    private final FormulaReader formulaReader = new FormulaReader(tape);
    private final Acts plan = new Acts();
    private final Deeds deeds = new Deeds();
    private final Line line = new Line(book);
    private final Line secondLine = new Line(book);
    private final Sheet sheet = new Sheet();
    private final int[] bestPoints = new int[MOST_EVENTS];
    private Formula needed = new Formula(new int[0], new int[0]);
    private Formula scored = new Formula(new int[0], new int[0]);
    private int today = 0;

    public MarkChains() {
    }

    public int feed(int a, int b, int c, int d, int e) {
        if (tape.length + FEED_BYTES > MOST_BYTES) {
            return NONE;
        }
        tape.addWord(a);
        tape.addWord(b);
        tape.addWord(c);
        tape.addWord(d);
        tape.addWord(e);
        return tape.length;
    }

    public int end(int n) {
        if (n < 0 || n > tape.length) {
            return NONE;
        }
        tape.length = n;
        return n;
    }

    public int text() {
        long sizes = book.packedSizes();
        tape.beginReading();
        int items = itemReader.readItems(today);
        tape.length = 0;
        if (items == NONE) {
            book.cutToSizes(sizes);
            return NONE;
        }
        deeds.add(new Deed(DEED_TEXT, NONE, NONE, sizes, null));
        return items;
    }

    public int needs() {
        tape.beginReading();
        Formula read = formulaReader.readNeeds();
        tape.length = 0;
        if (read == null) {
            return NONE;
        }
        deeds.add(new Deed(DEED_NEEDS, NONE, NONE, 0L, needed));
        needed = read;
        return needed.parts();
    }

    public int fault() {
        return tape.fault;
    }

    public int is(int what) {
        switch (what) {
            case 0:
                return book.events.size;
            case 1:
                return book.places.size;
            case 2:
                return book.athletes.size;
            case 3:
                return book.size;
            case 4:
                return needed.parts();
            case 5:
                return today;
            case 6:
                return deeds.size;
            case 7:
                return tape.length;
            case 8:
                return book.countStanding(today);
            case 9:
                return book.countStruck();
            case 10:
                return book.countRatified();
            case 11:
                return countGood();
            default:
                return NONE;
        }
    }

    public int mark(int k, int what) {
        return book.hasMark(k) ? book.factOf(k, what) : UNKNOWN;
    }

    public int told(int sort, int i, int what) {
        Pairs pairs = book.pairsOf(sort);
        if (pairs == null || !pairs.has(i) || what < 0 || what >= PAIR_FIELDS) {
            return UNKNOWN;
        }
        return what == 0 ? pairs.first[i] : pairs.second[i];
    }

    public int good(int k) {
        return book.hasMark(k) ? lackOf(k, book.papers[k]) : OTHERS;
    }

    public int ratify(int k) {
        if (!book.hasMark(k)) {
            return OTHERS;
        }
        if (book.ratified[k] != NONE) {
            return IT_IS;
        }
        if (book.struck[k] != NONE) {
            return IS_STRUCK;
        }
        if (lackOf(k, book.papers[k]) != NONE) {
            return NOT_GOOD;
        }
        deeds.add(new Deed(DEED_RATIFY, k, NONE, 0L, null));
        book.ratified[k] = today;
        return today;
    }

    public int strike(int k) {
        if (!book.hasMark(k)) {
            return OTHERS;
        }
        if (book.struck[k] != NONE) {
            return IT_IS;
        }
        deeds.add(new Deed(DEED_STRIKE, NONE, NONE, 1L << k, null));
        book.struck[k] = today;
        return today;
    }

    public int ban(int athlete, int from, int to) {
        if (!book.athletes.has(athlete) || from > to) {
            return NONE;
        }
        long banned = 0L;
        int count = 0;
        for (int k = 0; k < book.size; k++) {
            int day = book.day[k];
            if (book.athlete[k] == athlete && book.struck[k] == NONE && day >= from && day <= to) {
                book.struck[k] = today;
                banned |= 1L << k;
                count++;
            }
        }
        deeds.add(new Deed(DEED_STRIKE, NONE, NONE, banned, null));
        return count;
    }

    public int paper(int k, int bits) {
        if (!book.hasMark(k) || bits < 0 || bits > ALL_PAPERS) {
            return NONE;
        }
        deeds.add(new Deed(DEED_PAPER, k, book.papers[k], 0L, null));
        book.papers[k] |= bits;
        return book.papers[k];
    }

    public int days(int n) {
        if (n < 1 || n > LAST_DAY) {
            return NONE;
        }
        deeds.add(new Deed(DEED_DAYS, NONE, today, 0L, null));
        today = Math.min(today + n, LAST_DAY);
        return today;
    }

    public int within(int k, int scope) {
        if (!isMarkAndScope(k, scope)) {
            return NONE;
        }
        return book.isOfScope(k, scope) ? 1 : 0;
    }

    public int chain(int event, int scope, int day, int i) {
        if (!fillChain(event, scope, day)) {
            return OTHERS;
        }
        return line.countOrPick(i);
    }

    public int record(int event, int scope, int day) {
        if (!fillChain(event, scope, day)) {
            return OTHERS;
        }
        return line.lastValue();
    }

    public int holders(int event, int scope, int day) {
        if (!fillChain(event, scope, day)) {
            return OTHERS;
        }
        return line.holderBits();
    }

    public int ties(int event, int scope, int day) {
        if (!fillChain(event, scope, day)) {
            return OTHERS;
        }
        return line.countTies();
    }

    public int held(int event, int scope, int athlete, int day) {
        if (!book.athletes.has(athlete) || !fillChain(event, scope, day)) {
            return OTHERS;
        }
        return line.daysHeldBy(athlete, day);
    }

    public int stood(int event, int scope, int day, int what) {
        if (what < 0 || what > 1 || !fillChain(event, scope, day)) {
            return OTHERS;
        }
        int longest = line.longestLevel(day);
        if (longest == NONE) {
            return what == 0 ? 0 : NONE;
        }
        return what == 0 ? line.daysOfLevel(longest, day) : line.numbers[longest];
    }

    public int altered(int key, int one, int other, int what) {
        if (key < 0 || key > LAST_KEY || what < 0 || what > 3) {
            return OTHERS;
        }
        int event = key / KEY_STEP;
        int scope = key % KEY_STEP;
        if (!isAsked(event, scope, one) || !isDay(other)) {
            return OTHERS;
        }
        line.fillWithChain(event, scope, one, NONE);
        secondLine.fillWithChain(event, scope, other, NONE);
        switch (what) {
            case 0:
                return secondLine.countNotIn(line);
            case 1:
                return secondLine.lowestNotIn(line);
            case 2:
                return line.countNotIn(secondLine);
            default:
                return line.lowestNotIn(secondLine);
        }
    }

    public int list(int event, int scope, int day, int i) {
        if (!isAsked(event, scope, day)) {
            return OTHERS;
        }
        line.fillWithList(event, scope, day);
        return line.countOrPick(i);
    }

    public int rank(int k, int scope) {
        if (!isMarkAndScope(k, scope)) {
            return OTHERS;
        }
        line.fillWithList(book.event[k], scope, today);
        return line.placeOf(k);
    }

    public int wished(int event, int scope, int day) {
        if (!fillChain(event, scope, day)) {
            return OTHERS;
        }
        if (line.size == 0) {
            return NONE;
        }
        int wish = line.lastValue() + (book.isMoreBetter(event) ? 1 : -1);
        return wish < 1 || wish > MOST_VALUE ? 0 : wish;
    }

    public int would(int k) {
        if (!book.hasMark(k) || book.ratified[k] != NONE) {
            return NONE;
        }
        int count = 0;
        for (int scope = 0; scope <= LAST_SCOPE; scope++) {
            if (book.isOfScope(k, scope) && book.firstBetterAhead(k, scope, today) == NONE) {
                count++;
            }
        }
        return count;
    }

    public int score() {
        tape.beginReading();
        Formula read = formulaReader.readScore();
        tape.length = 0;
        if (read == null) {
            return NONE;
        }
        deeds.add(new Deed(DEED_SCORE, NONE, NONE, 0L, scored));
        scored = read;
        return formulaReader.things;
    }

    public int points(int k) {
        return book.hasMark(k) ? pointsOf(k) : NONE;
    }

    public int champion(int day, int what) {
        if (!isDay(day) || what < 0 || what > 1) {
            return OTHERS;
        }
        int best = NONE;
        int most = 0;
        for (int athlete = 0; athlete < book.athletes.size; athlete++) {
            int sum = sumOfBest(athlete, NONE, day);
            if (sum > most) {
                most = sum;
                best = athlete;
            }
        }
        return what == 0 ? best : most;
    }

    public int table(int area, int day) {
        if (area < 0 || area > LAST_AREA || !isDay(day)) {
            return OTHERS;
        }
        return sumOfBest(NONE, area, day);
    }

    public int placed(int k) {
        if (!book.hasMark(k)) {
            return OTHERS;
        }
        if (book.struck[k] != NONE) {
            return NONE;
        }
        int count = 0;
        for (int other = 0; other < book.size; other++) {
            if (book.isMet(other, k) && book.isBetter(other, k)) {
                count++;
            }
        }
        return count;
    }

    public int duel(int one, int other) {
        if (!book.athletes.has(one) || !book.athletes.has(other) || one == other) {
            return OTHERS;
        }
        int count = 0;
        for (int k = 0; k < book.size; k++) {
            // Only the best of one stands for a meeting, so that each meeting counts once.
            if (book.bestInMeeting(k, one) == k) {
                int rival = book.bestInMeeting(k, other);
                if (rival != NONE && book.isBetter(k, rival)) {
                    count++;
                }
            }
        }
        return count;
    }

    public int progress(int event, int scope, int day, int what) {
        if (what < 0 || what > 2 || !fillChain(event, scope, day)) {
            return OTHERS;
        }
        if (what == 0) {
            return line.wholeGain();
        }
        int widest = line.widestStep();
        if (what == 1) {
            return widest == NONE ? 0 : line.stepAt(widest);
        }
        return widest == NONE ? NONE : line.numbers[widest];
    }

    public int since(int k, int scope) {
        if (!isMarkAndScope(k, scope)) {
            return OTHERS;
        }
        return book.firstDayInChain(k, scope);
    }

    public int without(int k, int scope, int what) {
        if (!isMarkAndScope(k, scope) || what < 0 || what > 1) {
            return OTHERS;
        }
        secondLine.fillWithChain(book.event[k], scope, today, k);
        if (what == 1) {
            return secondLine.lastValue();
        }
        line.fillWithChain(book.event[k], scope, today, NONE);
        return secondLine.countNotIn(line);
    }

    public int acts() {
        tape.beginReading();
        int count = plan.readFrom(tape);
        tape.length = 0;
        if (count == NONE) {
            return NONE;
        }
        plan.begin();
        for (int i = 0; i < count && plan.endedBy == NONE; i++) {
            plan.note(i, perform(i));
        }
        return plan.done;
    }

    public int ended() {
        return plan.endedBy;
    }

    public int row(int k) {
        return k >= 0 && k < plan.done ? plan.answers[k] : NONE;
    }

    public int personal(int athlete, int event, int i) {
        if (!book.athletes.has(athlete) || !book.events.has(event)) {
            return OTHERS;
        }
        line.fillWithPersonal(athlete, event, today);
        return line.countOrPick(i);
    }

    public int season(int event, int year, int i) {
        if (!book.events.has(event) || year < 0 || year > LAST_YEAR) {
            return OTHERS;
        }
        line.fillWithSeason(event, year, today);
        return line.countOrPick(i);
    }

    public int at(int event, int scope, int day, int minute) {
        if (!isAsked(event, scope, day) || minute < 0 || minute > LAST_MINUTE) {
            return OTHERS;
        }
        line.fillWithChain(event, scope, today, NONE);
        return line.latestTill(day, minute);
    }

    public int missing(int k) {
        if (!book.hasMark(k)) {
            return OTHERS;
        }
        int papers = book.papers[k];
        if (lackOf(k, papers) == NONE) {
            return 0;
        }
        for (int set : PAPER_SETS) {
            if ((papers & set) == 0 && lackOf(k, papers | set) == NONE) {
                return set;
            }
        }
        return NONE;
    }

    public int stands(int k, int what) {
        if (!book.hasMark(k) || what < 0 || what > 3) {
            return OTHERS;
        }
        int count = 0;
        for (int scope = 0; scope <= LAST_SCOPE; scope++) {
            if (book.isOfScope(k, scope) && isPlacedSo(k, scope, what)) {
                count++;
            }
        }
        return count;
    }

    public int holding(int event) {
        if (event != NONE && !book.events.has(event)) {
            return OTHERS;
        }
        int bits = 0;
        for (int one = 0; one < book.events.size; one++) {
            if (event == NONE || event == one) {
                bits |= holdersInAnyScope(one);
            }
        }
        return bits;
    }

    public int drought(int event, int scope, int day) {
        if (!fillChain(event, scope, day)) {
            return OTHERS;
        }
        return line.longestGap(day);
    }

    public int back() {
        Deed deed = deeds.takeLatest();
        if (deed == null) {
            return NONE;
        }
        undo(deed);
        return deeds.size;
    }

    public int write(int event, int scope, int day) {
        if (!fillChain(event, scope, day)) {
            return OTHERS;
        }
        sheet.size = 0;
        for (int i = 0; i < line.size; i++) {
            int k = line.numbers[i];
            if (i > 0) {
                sheet.addSign(' ');
            }
            if (line.isTie(i)) {
                sheet.addSign('=');
            }
            sheet.addNumber(book.value[k]);
            sheet.addSign('/');
            sheet.addNumber(book.athlete[k]);
        }
        return sheet.size;
    }

    public int octet(int k) {
        return k >= 0 && k < sheet.size ? sheet.bytes[k] : NONE;
    }

    private static boolean isDay(int day) {
        return day >= 0 && day <= LAST_DAY;
    }

    private static boolean isScope(int scope) {
        return scope >= 0 && scope <= LAST_SCOPE;
    }

    private boolean isMarkAndScope(int k, int scope) {
        return book.hasMark(k) && isScope(scope);
    }

    private boolean isAsked(int event, int scope, int day) {
        return book.events.has(event) && isScope(scope) && isDay(day);
    }

    /** The chain comes into the line; false if the question is none that can be asked. */
    private boolean fillChain(int event, int scope, int day) {
        if (!isAsked(event, scope, day)) {
            return false;
        }
        line.fillWithChain(event, scope, day, NONE);
        return true;
    }

    /** What keeps mark k, had it these papers, from being good: a need, the wind, or NONE. */
    private int lackOf(int k, int papers) {
        for (int i = 0; i < needed.parts(); i++) {
            if (needed.valueOf(i, book, k, papers) == 0) {
                return i;
            }
        }
        return book.isWindTooStrong(k) ? WIND_ALONE : NONE;
    }

    private int countGood() {
        int count = 0;
        for (int k = 0; k < book.size; k++) {
            if (lackOf(k, book.papers[k]) == NONE) {
                count++;
            }
        }
        return count;
    }

    private int pointsOf(int k) {
        if (scored.parts() == 0) {
            int value = book.value[k];
            return book.isMoreBetter(book.event[k]) ? value : MOST_POINTS - value;
        }
        int sum = scored.valueOf(0, book, k, book.papers[k]);
        return Math.max(0, Math.min(sum, MOST_POINTS));
    }

    /** The best points of each event, together: of one athlete or one area (NONE: of any). */
    private int sumOfBest(int athlete, int area, int day) {
        Arrays.fill(bestPoints, 0);
        for (int k = 0; k < book.size; k++) {
            int who = book.athlete[k];
            if ((athlete == NONE || who == athlete)
                    && (area == NONE || book.athletes.second[who] == area)
                    && book.isStanding(k, day)) {
                int event = book.event[k];
                bestPoints[event] = Math.max(bestPoints[event], pointsOf(k));
            }
        }
        int sum = 0;
        for (int best : bestPoints) {
            sum += best;
        }
        return sum;
    }

    private int perform(int i) {
        int one = plan.numberOf(i, 0);
        switch (plan.letterOf(i)) {
            case 'r':
                return ratify(one);
            case 's':
                return strike(one);
            case 'd':
                return days(one);
            case 'p':
                return paper(one, plan.numberOf(i, 1));
            default:
                return ban(one, plan.numberOf(i, 1), plan.numberOf(i, 2));
        }
    }

    private boolean isPlacedSo(int k, int scope, int what) {
        if (what < 2) {
            line.fillWithChain(book.event[k], scope, today, NONE);
        } else {
            line.fillWithList(book.event[k], scope, today);
        }
        int place = line.placeOf(k);
        if (what == 1) {
            return place != NONE && place == line.size - 1;
        }
        return what == 3 ? place == 0 : place != NONE;
    }

    private int holdersInAnyScope(int event) {
        int bits = 0;
        for (int scope = 0; scope <= LAST_SCOPE; scope++) {
            line.fillWithChain(event, scope, today, NONE);
            bits |= line.holderBits();
        }
        return bits;
    }

    private void undo(Deed deed) {
        switch (deed.kind) {
            case DEED_TEXT:
                book.cutToSizes(deed.bits);
                break;
            case DEED_NEEDS:
                needed = deed.formula == null ? needed : deed.formula;
                break;
            case DEED_SCORE:
                scored = deed.formula == null ? scored : deed.formula;
                break;
            case DEED_RATIFY:
                if (book.hasMark(deed.which)) {
                    book.ratified[deed.which] = NONE;
                }
                break;
            case DEED_STRIKE:
                book.unstrike(deed.bits);
                break;
            case DEED_PAPER:
                if (book.hasMark(deed.which)) {
                    book.papers[deed.which] = deed.old;
                }
                break;
            default:
                today = deed.old;
                break;
        }
    }

    /** The bytes that are fed, a place in them for whoever reads, and where reading failed. */
    private static final class Tape {
        private final int[] bytes = new int[MOST_BYTES];
        private int length = 0;
        private int place = 0;
        private int number = 0;
        private int numberPlace = 0;
        private int fault = NONE;

        void addWord(int word) {
            for (int shift = 24; shift >= 0 && length < MOST_BYTES; shift -= 8) {
                bytes[length] = (word >>> shift) & 255;
                length++;
            }
        }

        void beginReading() {
            place = 0;
            fault = NONE;
        }

        boolean isOver() {
            return place >= length;
        }

        /** The byte at the place, NONE behind the last. */
        int peek() {
            return place < length ? bytes[place] : NONE;
        }

        void step() {
            place++;
        }

        boolean failHere() {
            fault = place;
            return false;
        }

        boolean failAtNumber() {
            fault = numberPlace;
            return false;
        }

        boolean pass(int sign) {
            if (peek() != sign) {
                return failHere();
            }
            place++;
            return true;
        }

        boolean isDigitHere() {
            int sign = peek();
            return sign >= '0' && sign <= '9';
        }

        boolean readNumber() {
            numberPlace = place;
            boolean isMinus = peek() == '-';
            if (isMinus) {
                place++;
            }
            if (!readDigits()) {
                return false;
            }
            if (isMinus) {
                number = -number;
            }
            return true;
        }

        boolean readDigits() {
            number = 0;
            int count = 0;
            for (; count < MOST_DIGITS && isDigitHere(); count++) {
                number = number * 10 + (peek() - '0');
                place++;
            }
            return count > 0 && !isDigitHere() || failHere();
        }
    }

    /** Things that are told by two numbers each. */
    private static final class Pairs {
        private final int[] first;
        private final int[] second;
        private int size = 0;

        Pairs(int most) {
            int length = Math.max(most, 0);
            first = new int[length];
            second = new int[length];
        }

        boolean has(int i) {
            return i >= 0 && i < size;
        }

        boolean isFull() {
            return size >= first.length;
        }

        /** Tells a number of the one that comes next, which is not yet there. */
        void draft(int field, int number) {
            if (isFull()) {
                return;
            }
            if (field == 0) {
                first[size] = number;
            } else {
                second[size] = number;
            }
        }

        void settle() {
            if (!isFull()) {
                size++;
            }
        }
    }

    /** All that is told: events, places, athletes, and the marks with their days. */
    private static final class Book {
        private static final int[] AGES = {18, 20, 23, 35, 40, 45, 50};

        /** BETTER and LIMIT. */
        private final Pairs events = new Pairs(MOST_EVENTS);
        /** AREA and HEIGHT. */
        private final Pairs places = new Pairs(MOST_PLACES);
        /** BORN and AREA. */
        private final Pairs athletes = new Pairs(MOST_ATHLETES);
        private final int[] event = new int[MOST_MARKS];
        private final int[] athlete = new int[MOST_MARKS];
        private final int[] place = new int[MOST_MARKS];
        private final int[] day = new int[MOST_MARKS];
        private final int[] minute = new int[MOST_MARKS];
        private final int[] value = new int[MOST_MARKS];
        private final int[] wind = new int[MOST_MARKS];
        private final int[] shoe = new int[MOST_MARKS];
        private final int[] papers = new int[MOST_MARKS];
        private final int[] ratified = new int[MOST_MARKS];
        private final int[] struck = new int[MOST_MARKS];
        /** The marks by day, minute, number: every chain goes through them so. */
        private final int[] order = new int[MOST_MARKS];
        private int size = 0;

        boolean hasMark(int k) {
            return k >= 0 && k < size;
        }

        Pairs pairsOf(int sort) {
            switch (sort) {
                case EVENT_SORT:
                    return events;
                case PLACE_SORT:
                    return places;
                case ATHLETE_SORT:
                    return athletes;
                default:
                    return null;
            }
        }

        boolean isFull(int sort) {
            Pairs pairs = pairsOf(sort);
            return pairs == null ? size >= MOST_MARKS : pairs.isFull();
        }

        void draft(int sort, int field, int number) {
            Pairs pairs = pairsOf(sort);
            if (pairs != null) {
                pairs.draft(field, number);
            } else if (size < MOST_MARKS) {
                draftMark(field, number);
            }
        }

        private void draftMark(int field, int number) {
            switch (field) {
                case 0:
                    event[size] = number;
                    break;
                case 1:
                    athlete[size] = number;
                    break;
                case 2:
                    place[size] = number;
                    break;
                case 3:
                    day[size] = number;
                    break;
                case 4:
                    minute[size] = number;
                    break;
                case 5:
                    value[size] = number;
                    break;
                case 6:
                    wind[size] = number;
                    break;
                case 7:
                    shoe[size] = number;
                    break;
                default:
                    papers[size] = number;
                    break;
            }
        }

        void settle(int sort) {
            Pairs pairs = pairsOf(sort);
            if (pairs != null) {
                pairs.settle();
            } else if (size < MOST_MARKS) {
                settleMark();
            }
        }

        private void settleMark() {
            ratified[size] = NONE;
            struck[size] = NONE;
            int i = size;
            for (; i > 0 && isAhead(size, order[i - 1]); i--) {
                order[i] = order[i - 1];
            }
            order[i] = size;
            size++;
        }

        long packedSizes() {
            return events.size | places.size << 8 | athletes.size << 16 | (long) size << 24;
        }

        void cutToSizes(long sizes) {
            events.size = Math.min(events.size, (int) (sizes & 255));
            places.size = Math.min(places.size, (int) (sizes >> 8 & 255));
            athletes.size = Math.min(athletes.size, (int) (sizes >> 16 & 255));
            int kept = Math.min(size, (int) (sizes >> 24 & 255));
            int next = 0;
            for (int i = 0; i < size; i++) {
                if (order[i] < kept) {
                    order[next] = order[i];
                    next++;
                }
            }
            size = kept;
        }

        void unstrike(long marks) {
            for (int k = 0; k < size; k++) {
                if ((marks >> k & 1L) != 0L) {
                    struck[k] = NONE;
                }
            }
        }

        int factOf(int k, int what) {
            switch (what) {
                case 0:
                    return event[k];
                case 1:
                    return athlete[k];
                case 2:
                    return place[k];
                case 3:
                    return day[k];
                case 4:
                    return minute[k];
                case 5:
                    return value[k];
                case 6:
                    return wind[k];
                case 7:
                    return shoe[k];
                case 8:
                    return papers[k];
                case 9:
                    return ageOf(k);
                case 10:
                    return ratified[k];
                case 11:
                    return struck[k];
                default:
                    return UNKNOWN;
            }
        }

        /** What a formula's letter means for mark k, had it these papers. */
        int thingOf(int k, int letter, int itsPapers) {
            switch (letter) {
                case 'v':
                    return value[k];
                case 'w':
                    return wind[k];
                case 's':
                    return shoe[k];
                case 'h':
                    return places.second[place[k]];
                case 'g':
                    return ageOf(k);
                case 'e':
                    return event[k];
                case 'd':
                    return day[k];
                case 'm':
                    return minute[k];
                case 'l':
                    return events.second[event[k]];
                case 'b':
                    return events.first[event[k]];
                default:
                    return itsPapers >> letter - 'x' & 1;
            }
        }

        int ageOf(int k) {
            return (day[k] - athletes.first[athlete[k]]) / YEAR;
        }

        boolean isMoreBetter(int oneEvent) {
            return events.first[oneEvent] == 1;
        }

        /** By how much mark k is better than another one of its event. */
        int gainOver(int k, int other) {
            return isMoreBetter(event[k]) ? value[k] - value[other] : value[other] - value[k];
        }

        boolean isBetter(int k, int other) {
            return gainOver(k, other) > 0;
        }

        boolean isAhead(int k, int other) {
            if (day[k] != day[other]) {
                return day[k] < day[other];
            }
            if (minute[k] != minute[other]) {
                return minute[k] < minute[other];
            }
            return k < other;
        }

        boolean isWindTooStrong(int k) {
            int limit = events.second[event[k]];
            return limit != NONE && wind[k] > limit;
        }

        boolean isStanding(int k, int knownOn) {
            return ratified[k] != NONE && ratified[k] <= knownOn
                    && (struck[k] == NONE || struck[k] > knownOn);
        }

        boolean isOfScope(int k, int scope) {
            if (scope == 0) {
                return true;
            }
            if (scope <= 6) {
                return athletes.second[athlete[k]] == scope - 1;
            }
            if (scope <= 14) {
                return place[k] == scope - 7;
            }
            int age = AGES[Math.min(scope, LAST_SCOPE) - 15];
            return scope <= 17 ? ageOf(k) < age : ageOf(k) >= age;
        }

        boolean isListed(int k, int oneEvent, int scope, int knownOn) {
            return event[k] == oneEvent && isStanding(k, knownOn) && isOfScope(k, scope);
        }

        /**
         * A mark that keeps k out of the chain: a chain's latest is the best so far, so one that
         * is ahead of k, and better, is enough.
         */
        int firstBetterAhead(int k, int scope, int knownOn) {
            for (int i = 0; i < size && order[i] != k; i++) {
                int other = order[i];
                if (isListed(other, event[k], scope, knownOn) && isBetter(other, k)) {
                    return other;
                }
            }
            return NONE;
        }

        /** Goes on from the day on which k was ratified to days on which what kept it out fell. */
        int firstDayInChain(int k, int scope) {
            if (!isOfScope(k, scope)) {
                return NONE;
            }
            int knownOn = ratified[k];
            for (int turn = 0; turn <= size && isStanding(k, knownOn); turn++) {
                int other = firstBetterAhead(k, scope, knownOn);
                if (other == NONE) {
                    return knownOn;
                }
                if (struck[other] == NONE) {
                    return NONE;
                }
                knownOn = struck[other];
            }
            return NONE;
        }

        /** Whether a mark that is not struck out was made in the meeting of another one. */
        boolean isMet(int k, int other) {
            return struck[k] == NONE && event[k] == event[other] && place[k] == place[other]
                    && day[k] == day[other];
        }

        int bestInMeeting(int k, int who) {
            int best = NONE;
            for (int other = 0; other < size; other++) {
                if (athlete[other] == who && isMet(other, k)
                        && (best == NONE || isBetter(other, best))) {
                    best = other;
                }
            }
            return best;
        }

        int countStanding(int knownOn) {
            int count = 0;
            for (int k = 0; k < size; k++) {
                count += isStanding(k, knownOn) ? 1 : 0;
            }
            return count;
        }

        int countStruck() {
            int count = 0;
            for (int k = 0; k < size; k++) {
                count += struck[k] != NONE ? 1 : 0;
            }
            return count;
        }

        int countRatified() {
            int count = 0;
            for (int k = 0; k < size; k++) {
                count += ratified[k] != NONE ? 1 : 0;
            }
            return count;
        }
    }

    /** A row of marks that is filled anew for each question: a chain, a list and their like. */
    private static final class Line {
        private final Book book;
        private final int[] numbers = new int[MOST_MARKS];
        private final int[] bestOf = new int[MOST_ATHLETES];
        private int size = 0;

        Line(Book book) {
            this.book = book;
        }

        /** The chain, as if the mark absent (NONE: none) were not ratified. */
        void fillWithChain(int event, int scope, int knownOn, int absent) {
            size = 0;
            for (int i = 0; i < book.size; i++) {
                int k = book.order[i];
                if (k != absent && book.isListed(k, event, scope, knownOn)
                        && (size == 0 || !book.isBetter(numbers[size - 1], k))) {
                    append(k);
                }
            }
        }

        void fillWithList(int event, int scope, int knownOn) {
            Arrays.fill(bestOf, NONE);
            for (int i = 0; i < book.size; i++) {
                int k = book.order[i];
                if (book.isListed(k, event, scope, knownOn)) {
                    int best = bestOf[book.athlete[k]];
                    if (best == NONE || book.isBetter(k, best)) {
                        bestOf[book.athlete[k]] = k;
                    }
                }
            }
            size = 0;
            for (int i = 0; i < book.size; i++) {
                int k = book.order[i];
                if (bestOf[book.athlete[k]] == k) {
                    insertByValue(k);
                }
            }
        }

        void fillWithPersonal(int athlete, int event, int knownOn) {
            size = 0;
            for (int i = 0; i < book.size; i++) {
                int k = book.order[i];
                if (book.athlete[k] == athlete && book.isListed(k, event, 0, knownOn)
                        && (size == 0 || book.isBetter(k, numbers[size - 1]))) {
                    append(k);
                }
            }
        }

        void fillWithSeason(int event, int year, int knownOn) {
            size = 0;
            for (int i = 0; i < book.size; i++) {
                int k = book.order[i];
                if (book.day[k] / YEAR == year && book.isListed(k, event, 0, knownOn)) {
                    insertByValue(k);
                }
            }
        }

        private void append(int k) {
            if (size < MOST_MARKS) {
                numbers[size] = k;
                size++;
            }
        }

        /** Behind all that are as good: those that come are ordered by day, minute, number. */
        private void insertByValue(int k) {
            if (size >= MOST_MARKS) {
                return;
            }
            int i = size;
            for (; i > 0 && book.isBetter(k, numbers[i - 1]); i--) {
                numbers[i] = numbers[i - 1];
            }
            numbers[i] = k;
            size++;
        }

        int countOrPick(int i) {
            if (i == NONE) {
                return size;
            }
            return i >= 0 && i < size ? numbers[i] : OTHERS;
        }

        int placeOf(int k) {
            for (int i = 0; i < size; i++) {
                if (numbers[i] == k) {
                    return i;
                }
            }
            return NONE;
        }

        int countNotIn(Line other) {
            int count = 0;
            for (int i = 0; i < size; i++) {
                if (other.placeOf(numbers[i]) == NONE) {
                    count++;
                }
            }
            return count;
        }

        int lowestNotIn(Line other) {
            int lowest = NONE;
            for (int i = 0; i < size; i++) {
                int k = numbers[i];
                if (other.placeOf(k) == NONE && (lowest == NONE || k < lowest)) {
                    lowest = k;
                }
            }
            return lowest;
        }

        int lastValue() {
            return size == 0 ? NONE : book.value[numbers[size - 1]];
        }

        int holderBits() {
            int bits = 0;
            int value = lastValue();
            for (int i = size - 1; i >= 0 && book.value[numbers[i]] == value; i--) {
                bits |= 1 << book.athlete[numbers[i]];
            }
            return bits;
        }

        boolean isTie(int i) {
            return i > 0 && i < size && book.value[numbers[i]] == book.value[numbers[i - 1]];
        }

        int countTies() {
            int count = 0;
            for (int i = 1; i < size; i++) {
                count += isTie(i) ? 1 : 0;
            }
            return count;
        }

        /** By how much the i-th is better than the one ahead of it; 0 for the first. */
        int stepAt(int i) {
            return i > 0 && i < size ? book.gainOver(numbers[i], numbers[i - 1]) : 0;
        }

        int wholeGain() {
            return size == 0 ? 0 : book.gainOver(numbers[size - 1], numbers[0]);
        }

        int widestStep() {
            int widest = NONE;
            for (int i = 1; i < size; i++) {
                if (stepAt(i) > (widest == NONE ? 0 : stepAt(widest))) {
                    widest = i;
                }
            }
            return widest;
        }

        private int dayAt(int i, int till) {
            return i < size ? book.day[numbers[i]] : till;
        }

        /** The place of the first behind the i-th that is better; the size, if none is. */
        private int levelEnd(int i) {
            int next = i + 1;
            while (next < size && isTie(next)) {
                next++;
            }
            return next;
        }

        int daysOfLevel(int i, int till) {
            return dayAt(levelEnd(i), till) - dayAt(i, till);
        }

        int longestLevel(int till) {
            int longest = NONE;
            for (int i = 0; i < size; i++) {
                if (!isTie(i) && (longest == NONE
                        || daysOfLevel(i, till) > daysOfLevel(longest, till))) {
                    longest = i;
                }
            }
            return longest;
        }

        int daysHeldBy(int athlete, int till) {
            int sum = 0;
            boolean isCounted = false;
            for (int i = 0; i < size; i++) {
                if (!isTie(i)) {
                    isCounted = false;
                }
                // The first of his with a value holds till its end: more of his add no day.
                if (!isCounted && book.athlete[numbers[i]] == athlete) {
                    sum += daysOfLevel(i, till);
                    isCounted = true;
                }
            }
            return sum;
        }

        int longestGap(int till) {
            int longest = 0;
            for (int i = 0; i < size; i++) {
                longest = Math.max(longest, dayAt(i + 1, till) - dayAt(i, till));
            }
            return longest;
        }

        int latestTill(int day, int minute) {
            int latest = NONE;
            for (int i = 0; i < size; i++) {
                int k = numbers[i];
                if (book.day[k] < day || book.day[k] == day && book.minute[k] <= minute) {
                    latest = k;
                }
            }
            return latest;
        }
    }

    /** Reads the text of items; what it has read of a text with a fault must be cut off again. */
    private static final class ItemReader {
        private static final String LETTERS = "epam";
        /** Two numbers each of an event, a place, an athlete; nine of a mark. */
        private static final int[] LOWEST =
            {0, -1, 0, 0, -30000, 0, 0, 0, 0, 0, 0, 1, -99, 0, 0};
        private static final int[] HIGHEST =
            {1, 99, LAST_AREA, 5000, LAST_DAY, LAST_AREA, MOST_EVENTS, MOST_ATHLETES, MOST_PLACES,
                LAST_DAY, LAST_MINUTE, MOST_VALUE, 99, 99, ALL_PAPERS};

        private final Tape tape;
        private final Book book;

        ItemReader(Tape tape, Book book) {
            this.tape = tape;
            this.book = book;
        }

        int readItems(int today) {
            int items = 0;
            while (items < MOST_BYTES && !tape.isOver()) {
                if (!readItem(today)) {
                    return NONE;
                }
                items++;
            }
            return items;
        }

        private boolean readItem(int today) {
            int sort = LETTERS.indexOf((char) tape.peek());
            if (sort < 0 || book.isFull(sort)) {
                return tape.failHere();
            }
            tape.step();
            int fields = sort == MARK_SORT ? MARK_FIELDS : PAIR_FIELDS;
            for (int field = 0; field < fields; field++) {
                if (!tape.readNumber()) {
                    return false;
                }
                if (!canBe(sort, field, tape.number, today)) {
                    return tape.failAtNumber();
                }
                if (!tape.pass(field == fields - 1 ? ';' : ',')) {
                    return false;
                }
                book.draft(sort, field, tape.number);
            }
            book.settle(sort);
            return true;
        }

        private boolean canBe(int sort, int field, int number, int today) {
            int i = sort * PAIR_FIELDS + field;
            if (i < 0 || i >= LOWEST.length || number < LOWEST[i] || number > HIGHEST[i]) {
                return false;
            }
            return sort != MARK_SORT || isToldAhead(field, number, today);
        }

        private boolean isToldAhead(int field, int number, int today) {
            switch (field) {
                case 0:
                    return book.events.has(number);
                case 1:
                    return book.athletes.has(number);
                case 2:
                    return book.places.has(number);
                case 3:
                    return number <= today;
                default:
                    return true;
            }
        }
    }

    /**
     * Needs or a score, in the order in which they are reckoned: a number from 0 on is itself, a
     * letter or an operator its sign below 0. Part i ends where ends[i] says.
     */
    private static final class Formula {
        private final int[] code;
        private final int[] ends;
        private final int[] stack = new int[MOST_THINGS];
        private int height = 0;

        Formula(int[] code, int[] ends) {
            this.code = code;
            this.ends = ends;
        }

        int parts() {
            return ends.length;
        }

        int valueOf(int part, Book book, int k, int papers) {
            if (part < 0 || part >= ends.length) {
                return 0;
            }
            height = 0;
            for (int i = part == 0 ? 0 : ends[part - 1]; i < ends[part] && i < code.length; i++) {
                int sign = -code[i];
                if (sign <= 0) {
                    push(code[i]);
                } else if (sign >= 'a' && sign <= 'z') {
                    push(book.thingOf(k, sign, papers));
                } else if (sign == '!') {
                    push(pop() == 0 ? 1 : 0);
                } else {
                    int right = pop();
                    push(joined(sign, pop(), right));
                }
            }
            return pop();
        }

        private void push(int number) {
            if (height < stack.length) {
                stack[height] = number;
                height++;
            }
        }

        private int pop() {
            if (height <= 0) {
                return 0;
            }
            height--;
            return stack[height];
        }

        private static int joined(int sign, int left, int right) {
            switch (sign) {
                case '+':
                    return left + right;
                case '-':
                    return left - right;
                case '*':
                    return left * right;
                case '/':
                    return right == 0 ? 0 : left / right;
                case '<':
                    return left < right ? 1 : 0;
                case '>':
                    return left > right ? 1 : 0;
                case '=':
                    return left == right ? 1 : 0;
                case '&':
                    return left & right;
                default:
                    return left | right;
            }
        }
    }

    /** Reads needs and scores; operators wait until all that binds more strongly is in the code. */
    private static final class FormulaReader {
        private static final String LETTERS = "vwshgedmlbxyz";
        private static final int AT_TEST = 0;
        private static final int AT_THING = 1;
        private static final int BEHIND_THING = 2;
        private static final int BEHIND_TEST = 3;
        private static final int BEHIND_COND = 4;

        private final Tape tape;
        private final int[] code = new int[MOST_BYTES];
        private final int[] waiting = new int[MOST_BYTES];
        private final int[] ends = new int[MOST_NEEDS];
        private int codeSize = 0;
        private int waitingSize = 0;
        private int conds = 0;
        private int things = 0;
        private int nested = 0;
        private int state = AT_TEST;
        private boolean isCompared = false;

        FormulaReader(Tape tape) {
            this.tape = tape;
        }

        /** The needs on the tape; null: a fault. */
        Formula readNeeds() {
            begin(BEHIND_COND);
            for (int turn = 0; turn < MOST_BYTES && !tape.isOver(); turn++) {
                if (!readNext()) {
                    tape.failHere();
                    return null;
                }
            }
            return finished(BEHIND_COND);
        }

        /** The score on the tape; null: a fault. */
        Formula readScore() {
            if (tape.isOver()) {
                begin(BEHIND_COND);
                return finished(BEHIND_COND);
            }
            begin(AT_THING);
            for (int turn = 0; turn < MOST_BYTES && !tape.isOver(); turn++) {
                if (!(state == AT_THING ? readThing() : readArithmetic(tape.peek()))) {
                    tape.failHere();
                    return null;
                }
            }
            release(1);
            endPart();
            return finished(BEHIND_THING);
        }

        private void begin(int firstState) {
            codeSize = 0;
            waitingSize = 0;
            conds = 0;
            things = 0;
            nested = 0;
            isCompared = false;
            state = firstState;
        }

        private Formula finished(int lastState) {
            if (state != lastState) {
                tape.failHere();
                return null;
            }
            return new Formula(Arrays.copyOf(code, codeSize), Arrays.copyOf(ends, conds));
        }

        /** Reads what comes next of needs; false, with the tape at the fault, if it can't be. */
        private boolean readNext() {
            int sign = tape.peek();
            switch (state) {
                case BEHIND_COND:
                    return conds < MOST_NEEDS && readAtTest(sign);
                case AT_TEST:
                    return readAtTest(sign);
                case AT_THING:
                    return readThing();
                case BEHIND_THING:
                    return readArithmetic(sign) || readComparing(sign)
                            || isCompared && readBehindTest(sign);
                default:
                    return readBehindTest(sign);
            }
        }

        private boolean readAtTest(int sign) {
            if (sign != '(' && sign != '!') {
                isCompared = false;
                return readThing();
            }
            if (nested == MOST_NESTED) {
                return false;
            }
            nested++;
            return await(sign, AT_TEST);
        }

        private boolean readThing() {
            if (things == MOST_THINGS) {
                return false;
            }
            int sign = tape.peek();
            if (tape.isDigitHere()) {
                if (!tape.readDigits()) {
                    return false;
                }
                emit(tape.number);
            } else if (sign > 0 && LETTERS.indexOf((char) sign) >= 0) {
                emit(-sign);
                tape.step();
            } else {
                return false;
            }
            things++;
            state = BEHIND_THING;
            return true;
        }

        private boolean readArithmetic(int sign) {
            if (sign != '+' && sign != '-' && sign != '*' && sign != '/') {
                return false;
            }
            release(strengthOf(sign));
            return await(sign, AT_THING);
        }

        private boolean readComparing(int sign) {
            if (isCompared || sign != '<' && sign != '>' && sign != '=') {
                return false;
            }
            isCompared = true;
            release(strengthOf(sign));
            return await(sign, AT_THING);
        }

        private boolean readBehindTest(int sign) {
            switch (sign) {
                case '&':
                case '|':
                    release(strengthOf(sign));
                    return await(sign, AT_TEST);
                case ')':
                    return closeBracket();
                case ';':
                    return closeCond();
                default:
                    return false;
            }
        }

        private boolean closeBracket() {
            release(1);
            // What stays when all operators are released is a bracket.
            if (waitingSize == 0) {
                return false;
            }
            waitingSize--;
            nested--;
            tape.step();
            state = BEHIND_TEST;
            return true;
        }

        private boolean closeCond() {
            release(1);
            if (waitingSize != 0) {
                return false;
            }
            endPart();
            tape.step();
            state = BEHIND_COND;
            return true;
        }

        private void endPart() {
            if (conds < MOST_NEEDS) {
                ends[conds] = codeSize;
                conds++;
            }
        }

        private void emit(int cell) {
            if (codeSize < MOST_BYTES) {
                code[codeSize] = cell;
                codeSize++;
            }
        }

        private boolean await(int sign, int nextState) {
            if (waitingSize >= MOST_BYTES) {
                return false;
            }
            waiting[waitingSize] = sign;
            waitingSize++;
            tape.step();
            state = nextState;
            return true;
        }

        private void release(int strength) {
            while (waitingSize > 0 && strengthOf(waiting[waitingSize - 1]) >= strength) {
                waitingSize--;
                emit(-waiting[waitingSize]);
                if (waiting[waitingSize] == '!') {
                    nested--;
                }
            }
        }

        private static int strengthOf(int sign) {
            switch (sign) {
                case '|':
                    return 1;
                case '&':
                    return 2;
                case '!':
                    return 3;
                case '<':
                case '>':
                case '=':
                    return 4;
                case '+':
                case '-':
                    return 5;
                case '*':
                case '/':
                    return 6;
                default:
                    return 0;
            }
        }
    }

    /** Acts as they were read, and what those told that were done. */
    private static final class Acts {
        private static final String LETTERS = "rsdpb";
        private static final int[] NUMBERS = {1, 1, 1, 2, 3};
        private static final int MOST_NUMBERS = 3;

        private final int[] letters = new int[MOST_ACTS];
        private final int[] numbers = new int[MOST_ACTS * MOST_NUMBERS];
        private final int[] answers = new int[MOST_ACTS];
        private int done = 0;
        private int endedBy = NONE;

        /** How many acts the tape has; NONE: a fault. */
        int readFrom(Tape tape) {
            int count = 0;
            while (count <= MOST_ACTS && !tape.isOver()) {
                if (!readAct(tape, count)) {
                    return NONE;
                }
                count++;
            }
            return count;
        }

        private boolean readAct(Tape tape, int i) {
            int letter = LETTERS.indexOf((char) tape.peek());
            if (letter < 0 || letter >= NUMBERS.length || i >= MOST_ACTS) {
                return tape.failHere();
            }
            letters[i] = tape.peek();
            tape.step();
            for (int field = 0; field < NUMBERS[letter]; field++) {
                if (!tape.readNumber()) {
                    return false;
                }
                numbers[i * MOST_NUMBERS + field] = tape.number;
                if (!tape.pass(field == NUMBERS[letter] - 1 ? ';' : ',')) {
                    return false;
                }
            }
            return true;
        }

        int letterOf(int i) {
            return i >= 0 && i < MOST_ACTS ? letters[i] : 0;
        }

        int numberOf(int i, int field) {
            int cell = i * MOST_NUMBERS + field;
            return cell >= 0 && cell < numbers.length ? numbers[cell] : 0;
        }

        void begin() {
            done = 0;
            endedBy = NONE;
        }

        void note(int i, int answer) {
            if (answer < 0) {
                endedBy = i;
            } else if (done < MOST_ACTS) {
                answers[done] = answer;
                done++;
            }
        }
    }

    /** What must be known to take one deed back. */
    private static final class Deed {
        private final int kind;
        private final int which;
        private final int old;
        private final long bits;
        private final Formula formula;

        Deed(int kind, int which, int old, long bits, Formula formula) {
            this.kind = kind;
            this.which = which;
            this.old = old;
            this.bits = bits;
            this.formula = formula;
        }
    }

    /** The latest deeds, in a ring: one more than it holds takes the place of the oldest. */
    private static final class Deeds {
        private final Deed[] ring = new Deed[MOST_DEEDS];
        private int next = 0;
        private int size = 0;

        void add(Deed deed) {
            ring[next] = deed;
            next = (next + 1) % MOST_DEEDS;
            size = Math.min(size + 1, MOST_DEEDS);
        }

        /** The latest deed, which is forgotten; null: there is none. */
        Deed takeLatest() {
            if (size == 0) {
                return null;
            }
            size--;
            next = (next + MOST_DEEDS - 1) % MOST_DEEDS;
            return ring[next];
        }
    }

    /** What was written latest. */
    private static final class Sheet {
        private static final int HIGHEST_POWER = 1000000;

        private final int[] bytes = new int[MOST_WRITTEN];
        private int size = 0;

        void addSign(int sign) {
            if (size < MOST_WRITTEN) {
                bytes[size] = sign;
                size++;
            }
        }

        /** A number from 0 on, of seven digits at most. */
        void addNumber(int number) {
            for (int power = HIGHEST_POWER; power >= 1; power /= 10) {
                if (number >= power || power == 1) {
                    addSign('0' + number / power % 10);
                }
            }
        }
    }
}
