import java.lang.reflect.Method;
import java.util.ArrayList;
import java.util.Arrays;
import java.util.List;
import java.util.Random;
import java.util.TreeMap;

/** Random runs on the class and on the plain model: each answer must be the same. */
public final class PlainTest {
    private static final int RUNS = 5000;
    /** An object is used for 512 calls at most; a text of 600 bytes takes some forty. */
    private static final int CALLS = 512 - 45;
    private static final String[] QUESTIONS = {
        "fault", "is", "mark", "told", "good", "within", "chain", "record", "holders", "ties", "held", "stood", "altered",
        "list", "rank", "wished", "would", "points", "champion", "table", "placed", "duel", "progress", "since", "without",
        "ended", "row", "personal", "season", "at", "missing", "stands", "holding", "drought", "write", "octet"
    };
    private static final int[] EXTREMES = {Integer.MIN_VALUE, Integer.MAX_VALUE, Integer.MIN_VALUE + 1, -2, -1, 64, 1 << 16, 1 << 30};
    private static final TreeMap<String, Method> MINE = methodsOf(MarkChains.class);
    private static final TreeMap<String, Method> PLAIN = methodsOf(PlainModel.class);

    private final Random random;
    private final MarkChains mine = new MarkChains();
    private final PlainModel plain = new PlainModel();
    private final List<String> trail = new ArrayList<>();
    private final int mostDay;
    private final int mostValue;
    private int calls = 0;
    private boolean differs = false;

    private PlainTest(long seed) {
        random = new Random(seed);
        mostDay = new int[] {3, 40, 800, 20000}[random.nextInt(4)];
        mostValue = new int[] {3, 8, 60, 1000000}[random.nextInt(4)];
    }

    private static TreeMap<String, Method> methodsOf(Class<?> type) {
        TreeMap<String, Method> all = new TreeMap<>();
        for (Method method : type.getDeclaredMethods()) {
            if (java.lang.reflect.Modifier.isPublic(method.getModifiers())) {
                all.put(method.getName(), method);
            }
        }
        return all;
    }

    public static void main(String[] args) throws Exception {
        Check check = new Check("PlainTest");
        int runs = args.length > 0 ? Integer.parseInt(args[0]) : RUNS;
        long first = args.length > 1 ? Long.parseLong(args[1]) : 1;
        for (long seed = first; seed < first + runs && check.broken() < 3; seed++) {
            PlainTest run = new PlainTest(seed);
            run.go();
            check.that("run " + seed + ":\n  " + String.join("\n  ", run.trail), !run.differs);
        }
        check.finish();
    }

    private void go() throws Exception {
        tell("text", setting());
        while (calls < CALLS && !differs) {
            int kind = random.nextInt(100);
            if (kind < 12) {
                tell("text", random.nextInt(6) == 0 ? spoilt(items()) : items());
            } else if (kind < 15) {
                tell("needs", random.nextInt(3) == 0 ? spoilt(needs()) : needs());
            } else if (kind < 17) {
                tell("score", random.nextInt(3) == 0 ? spoilt(sum()) : sum());
            } else if (kind < 20) {
                tell("acts", random.nextInt(4) == 0 ? spoilt(acts()) : acts());
            } else if (kind < 34) {
                act();
            } else if (kind < 37) {
                call("back");
            } else {
                ask(QUESTIONS[random.nextInt(QUESTIONS.length)]);
            }
        }
    }

    // ---- calls

    private void call(String name, int... args) throws Exception {
        if (args.length > 0 && !name.equals("end") && !name.equals("feed") && random.nextInt(60) == 0) {
            args[random.nextInt(args.length)] = EXTREMES[random.nextInt(EXTREMES.length)];
        }
        calls++;
        Object[] given = Arrays.stream(args).boxed().toArray();
        Object got = MINE.get(name).invoke(mine, given);
        Object want = PLAIN.get(name).invoke(plain, given);
        trail.add(name + Arrays.toString(args) + " answered " + got + (got.equals(want) ? "" : ", due is " + want));
        differs |= !got.equals(want);
    }

    private void tell(String name, String text) throws Exception {
        call("end", 0);
        String fed = text.length() > 600 ? text.substring(0, 600) : text;
        trail.add("tape " + fed);
        for (int i = 0; i < fed.length(); i += 20) {
            int[] words = new int[5];
            for (int j = 0; j < 20; j++) {
                int octet = i + j < fed.length() ? fed.charAt(i + j) : random.nextInt(256);
                words[j / 4] = words[j / 4] << 8 | octet;
            }
            call("feed", words);
        }
        if (random.nextInt(10) == 0) {
            call("end", fed.length() + 20);
            call("feed", 1, 2, 3, 4, 5);
            call("end", -1);
        }
        call("end", fed.length());
        call(name);
        call("fault");
        call("is", 7);
    }

    private void act() throws Exception {
        switch (random.nextInt(8)) {
            case 0: call("strike", someMark()); break;
            case 1: call("ban", small(17), random.nextInt(mostDay + 1), random.nextInt(mostDay + 1)); break;
            case 2: call("paper", someMark(), random.nextInt(4) == 0 ? small(65) : 1 << random.nextInt(6)); break;
            case 3: call("days", random.nextInt(20) == 0 ? small(20002) : 1 + random.nextInt(mostDay)); break;
            default: call("ratify", someMark()); break;
        }
    }

    private void ask(String name) throws Exception {
        int marks = Math.max(1, plain.is(3));
        int k = random.nextInt(12) == 0 ? small(62) : random.nextInt(marks);
        int event = random.nextInt(12) == 0 ? small(7) : random.nextInt(Math.max(1, plain.is(0)));
        int scope = random.nextInt(3) == 0 ? 0 : small(23);
        int day = someDay();
        int i = small(random.nextBoolean() ? 3 : 9);
        int athlete = random.nextInt(12) == 0 ? small(17) : random.nextInt(Math.max(1, plain.is(2)));
        int what = small(5);
        switch (name) {
            case "fault": case "ended": call(name); break;
            case "is": call(name, small(13)); break;
            case "mark": call(name, k, small(13)); break;
            case "told": call(name, small(4), small(17), small(3)); break;
            case "good": case "would": case "points": case "placed": case "missing": call(name, k); break;
            case "row": call(name, small(31)); break;
            case "octet": call(name, small(random.nextBoolean() ? 30 : 402)); break;
            case "holding": call(name, random.nextInt(3) == 0 ? -1 : event); break;
            case "within": case "rank": case "since": call(name, k, scope); break;
            case "without": call(name, k, scope, what); break;
            case "chain": case "list": call(name, event, scope, day, i); break;
            case "record": case "holders": case "ties": case "wished": case "drought": case "write": call(name, event, scope, day); break;
            case "held": call(name, event, scope, athlete, day); break;
            case "stood": case "progress": call(name, event, scope, day, what); break;
            case "altered": call(name, random.nextInt(9) == 0 ? small(193) : event * 32 + scope, day, someDay(), what); break;
            case "champion": call(name, day, what); break;
            case "table": call(name, small(7), day); break;
            case "duel": call(name, athlete, random.nextInt(Math.max(1, plain.is(2)))); break;
            case "personal": call(name, athlete, event, i); break;
            case "season": call(name, event, random.nextInt(4) == 0 ? small(56) : random.nextInt(mostDay / 365 + 1), i); break;
            case "at": call(name, event, scope, day, random.nextInt(9) == 0 ? small(1442) : random.nextInt(4)); break;
            case "stands": call(name, k, what); break;
            default: throw new IllegalStateException(name);
        }
    }

    /** From -1 on, below most. */
    private int small(int most) {
        return random.nextInt(most + 1) - 1;
    }

    private int someDay() {
        int today = plain.is(5);
        return random.nextInt(14) == 0 ? small(20002) : random.nextInt(3) == 0 ? today : random.nextInt(today + 1);
    }

    private int someMark() {
        return random.nextInt(14) == 0 ? small(62) : random.nextInt(Math.max(1, plain.is(3)));
    }

    // ---- texts

    private String setting() {
        StringBuilder all = new StringBuilder();
        for (int n = 1 + random.nextInt(3); n > 0; n--) {
            all.append(item('e'));
        }
        for (int n = 1 + random.nextInt(4); n > 0; n--) {
            all.append(item('p'));
        }
        for (int n = 1 + random.nextInt(6); n > 0; n--) {
            all.append(item('a'));
        }
        return all.toString();
    }

    private String items() {
        StringBuilder all = new StringBuilder();
        for (int n = random.nextInt(6); n > 0; n--) {
            int kind = random.nextInt(60);
            all.append(item(kind == 0 ? 'e' : kind == 1 ? 'p' : kind == 2 ? 'a' : 'm'));
        }
        return all.toString();
    }

    private String item(char letter) {
        switch (letter) {
            case 'e': return "e" + random.nextInt(2) + "," + (random.nextInt(3) == 0 ? 20 : -1) + ";";
            case 'p': return "p" + random.nextInt(6) + "," + random.nextInt(5001) + ";";
            case 'a': return "a" + (random.nextInt(30) == 0 ? random.nextInt(20001) : -random.nextInt(25000)) + "," + random.nextInt(6) + ";";
            default: break;
        }
        int today = plain.is(5);
        int day = random.nextInt(40) == 0 ? today + 1 : random.nextInt(today + 1);
        return "m" + random.nextInt(Math.max(1, plain.is(0))) + "," + random.nextInt(Math.max(1, plain.is(2))) + ","
            + random.nextInt(Math.max(1, plain.is(1))) + "," + day + "," + random.nextInt(3) + "," + (1 + random.nextInt(mostValue))
            + "," + (random.nextInt(60) - 30) + "," + random.nextInt(100) + "," + random.nextInt(64) + ";";
    }

    private String needs() {
        StringBuilder all = new StringBuilder();
        int most = random.nextInt(30) == 0 ? 10 : 3;
        for (int n = random.nextInt(most); n > 0; n--) {
            all.append(cond(random.nextInt(4) == 0 ? 5 : 2)).append(';');
        }
        return all.toString();
    }

    private String cond(int deep) {
        StringBuilder all = new StringBuilder(both(deep));
        for (; random.nextInt(2) == 0; ) {
            all.append('|').append(both(deep));
        }
        return all.toString();
    }

    private String both(int deep) {
        StringBuilder all = new StringBuilder(test(deep));
        for (; random.nextInt(4) == 0; ) {
            all.append('&').append(test(deep));
        }
        return all.toString();
    }

    private String test(int deep) {
        int kind = random.nextInt(deep > 2 ? 3 : 6);
        if (deep > -3 && kind == 0) {
            return "!" + test(deep - 1);
        }
        if (deep > -3 && kind == 1) {
            return "(" + cond(deep - 1) + ")";
        }
        return random.nextInt(3) == 0 ? "" + "xyz".charAt(random.nextInt(3)) + "=" + random.nextInt(2)
            : sum() + "<>=".charAt(random.nextInt(3)) + sum();
    }

    private String sum() {
        StringBuilder all = new StringBuilder();
        int more = random.nextInt(40) == 0 ? 62 : random.nextInt(3) * random.nextInt(3);
        for (int n = 0; n <= more; n++) {
            all.append(n > 0 ? "+-*/".charAt(random.nextInt(4)) : "");
            all.append(random.nextInt(3) == 0 ? String.valueOf(random.nextInt(new int[] {3, 40, 10000000}[random.nextInt(3)]))
                : "" + "vwshgedmlbxyz".charAt(random.nextInt(13)));
        }
        return random.nextInt(20) == 0 ? "" : all.toString();
    }

    private String acts() {
        StringBuilder all = new StringBuilder();
        for (int n = random.nextInt(random.nextInt(12) == 0 ? 33 : 6); n > 0; n--) {
            switch (random.nextInt(6)) {
                case 0: all.append("s").append(someMark()); break;
                case 1: all.append("d").append(1 + random.nextInt(Math.min(mostDay, 30))); break;
                case 2: all.append("p").append(someMark()).append(",").append(random.nextInt(64)); break;
                case 3: all.append("b").append(small(9)).append(",").append(small(30)).append(",").append(random.nextInt(mostDay)); break;
                default: all.append("r").append(someMark()); break;
            }
            all.append(';');
        }
        return all.toString();
    }

    private String spoilt(String text) {
        String signs = "epamrsdb0123456789-,;()!&|<>=+*/vwxyz \0\u00ff";
        char sign = signs.charAt(random.nextInt(signs.length()));
        int i = random.nextInt(text.length() + 1);
        switch (random.nextInt(4)) {
            case 0: return text.substring(0, i);
            case 1: return text.substring(0, i) + sign + text.substring(i);
            case 2: return i == text.length() ? text + sign : text.substring(0, i) + sign + text.substring(i + 1);
            default: return i == text.length() ? text : text.substring(0, i) + text.substring(i + 1);
        }
    }
}
