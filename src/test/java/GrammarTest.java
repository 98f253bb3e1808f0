import java.util.HashMap;
import java.util.HashSet;
import java.util.Map;
import java.util.Set;

/**
 * FAULT by its own words: the first byte with which no such text goes on. The grammars stand here as rows of
 * productions, and all that a text may still become is held as a set, so that no reader is written a second time.
 * Every beginning of a text up to some length that chosen signs make is tried, with every byte that can't follow.
 */
public final class GrammarTest {
    private static final Check CHECK = new Check("GrammarTest");
    private static final int MOST_NESTED = 6;
    private static final int MOST_BROKEN = 20;

    /** What stands open: signs and names (capitals) that must still come, the next one first. */
    private record Grammar(Map<Character, String[]> rows, String start) {
        /** All that may still come behind one more byte; empty: no such text goes on with it. */
        Set<String> after(Set<String> open, char sign) {
            Set<String> next = new HashSet<>();
            for (String one : closed(open)) {
                if (!one.isEmpty() && one.charAt(0) == sign && !rows.containsKey(sign)) {
                    next.add(one.substring(1));
                }
            }
            return next;
        }

        boolean mayEnd(Set<String> open) {
            return closed(open).contains("");
        }

        /** Names at the front are replaced by all that they may be. */
        private Set<String> closed(Set<String> open) {
            Set<String> done = new HashSet<>();
            Set<String> todo = open;
            while (!todo.isEmpty()) {
                Set<String> more = new HashSet<>();
                for (String one : todo) {
                    if (one.isEmpty() || !rows.containsKey(one.charAt(0))) {
                        done.add(one);
                    } else {
                        for (String row : rows.get(one.charAt(0))) {
                            more.add(row + one.substring(1));
                        }
                    }
                }
                todo = more;
            }
            return done;
        }
    }

    private interface Reader {
        int read(Rig rig, String text);
    }

    public static void main(String[] args) {
        exhaust("text", items(), 12, "e-0,;", Rig::text);
        exhaust("text", items(), 6, "epam-0,;", GrammarTest::textBehindAnother);
        exhaust("needs", needs(), 5, "v1=!(&;", Rig::needs);
        exhaust("needs", needs(), 8, "v=!();", Rig::needs);
        exhaust("score", score(), 5, "v1+/", Rig::score);
        exhaust("acts", acts(), 5, "rpb-1,;", Rig::acts);
        exhaust("acts", acts(), 11, "b1,;", Rig::acts);
        CHECK.finish();
    }

    /** S: a SUM; P: a PRODUCT; A: a THING. */
    private static Map<Character, String[]> sums() {
        Map<Character, String[]> rows = new HashMap<>();
        rows.put('S', new String[] {"PT"});
        rows.put('T', new String[] {"", "+PT", "-PT"});
        rows.put('P', new String[] {"AQ"});
        rows.put('Q', new String[] {"", "*AQ", "/AQ"});
        rows.put('A', new String[] {"v", "w", "s", "h", "g", "e", "d", "m", "l", "b", "x", "y", "z", "I"});
        addDigits(rows);
        return rows;
    }

    /** I: one to seven digits. */
    private static void addDigits(Map<Character, String[]> rows) {
        rows.put('G', "0 1 2 3 4 5 6 7 8 9".split(" "));
        rows.put('I', new String[] {"G", "GG", "GGG", "GGGG", "GGGGG", "GGGGGG", "GGGGGGG"});
    }

    /** A name that is one for each level: how many of ( and ! stand around it. */
    private static char at(int level, char name) {
        return (char) (name + 256 * (level + 1));
    }

    private static Grammar needs() {
        Map<Character, String[]> rows = sums();
        rows.put('Z', new String[] {"", at(0, 'C') + ";Z"});
        rows.put('O', new String[] {"<", ">", "="});
        for (int level = 0; level <= MOST_NESTED; level++) {
            char both = at(level, 'B');
            char test = at(level, 'E');
            char moreBoth = at(level, 'K');
            char moreTests = at(level, 'F');
            rows.put(at(level, 'C'), new String[] {"" + both + moreBoth});
            rows.put(moreBoth, new String[] {"", "|" + both + moreBoth});
            rows.put(both, new String[] {"" + test + moreTests});
            rows.put(moreTests, new String[] {"", "&" + test + moreTests});
            rows.put(test, level == MOST_NESTED ? new String[] {"SOS"}
                : new String[] {"!" + at(level + 1, 'E'), "(" + at(level + 1, 'C') + ")", "SOS"});
        }
        return new Grammar(rows, "Z");
    }

    private static Grammar score() {
        Map<Character, String[]> rows = sums();
        rows.put('Z', new String[] {"", "S"});
        return new Grammar(rows, "Z");
    }

    /** Numbers that can't be are no matter of grammar: the signs that are tried have 0 alone for a digit. */
    private static Grammar items() {
        Map<Character, String[]> rows = new HashMap<>();
        addDigits(rows);
        rows.put('N', new String[] {"-I", "I"});
        rows.put('Z', new String[] {"", "eN,N;Z", "pN,N;Z", "aN,N;Z", "mN,N,N,N,N,N,N,N,N;Z"});
        return new Grammar(rows, "Z");
    }

    private static Grammar acts() {
        Map<Character, String[]> rows = new HashMap<>();
        addDigits(rows);
        rows.put('N', new String[] {"-I", "I"});
        rows.put('Z', new String[] {"", "rN;Z", "sN;Z", "dN;Z", "pN,N;Z", "bN,N,N;Z"});
        return new Grammar(rows, "Z");
    }

    /** What a mark names with 0 is told ahead. */
    private static int textBehindAnother(Rig rig, String text) {
        rig.text("e0,0;p0,0;a0,0;");
        return rig.text(text);
    }

    private static void exhaust(String name, Grammar grammar, int most, String signs, Reader reader) {
        Set<String> open = new HashSet<>();
        open.add(grammar.start());
        goOn(name, grammar, open, "", most, signs, reader);
    }

    /** Texts of the signs are gone through; behind each that may go on, all bytes are tried. */
    private static void goOn(String name, Grammar grammar, Set<String> open, String text, int most, String signs, Reader reader) {
        for (char sign = 0; sign < 256; sign++) {
            if (grammar.after(open, sign).isEmpty()) {
                faultIs(name, text + sign, text.length(), reader);
                if (signs.indexOf(sign) >= 0) {
                    faultIs(name, text + sign + "v=1;", text.length(), reader);
                }
            }
        }
        faultIs(name, text, grammar.mayEnd(open) ? -1 : text.length(), reader);
        if (text.length() == most || CHECK.broken() > MOST_BROKEN) {
            return;
        }
        for (char sign : signs.toCharArray()) {
            Set<String> next = grammar.after(open, sign);
            if (!next.isEmpty()) {
                goOn(name, grammar, next, text + sign, most, signs, reader);
            }
        }
    }

    private static void faultIs(String name, String text, int at, Reader reader) {
        Rig rig = new Rig();
        int answer = reader.read(rig, text);
        if ((answer == -1) != (at != -1) || rig.x.fault() != at) {
            CHECK.due(name + " " + text + " (" + answer + ")", rig.x.fault(), at);
        } else {
            CHECK.that(name, true);
        }
    }
}
