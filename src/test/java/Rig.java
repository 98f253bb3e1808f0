/** An object with its tape fed by texts. */
final class Rig {
    final MarkChains x = new MarkChains();

    void tape(String text) {
        x.end(0);
        for (int i = 0; i < text.length(); i += 20) {
            int[] words = new int[5];
            for (int j = 0; j < 20; j++) {
                words[j / 4] = words[j / 4] << 8 | (i + j < text.length() ? text.charAt(i + j) : 0);
            }
            x.feed(words[0], words[1], words[2], words[3], words[4]);
        }
        x.end(text.length());
    }

    int text(String text) {
        tape(text);
        return x.text();
    }

    int needs(String text) {
        tape(text);
        return x.needs();
    }

    int score(String text) {
        tape(text);
        return x.score();
    }

    int acts(String text) {
        tape(text);
        return x.acts();
    }

    /** The latest that was written; bytes behind the 401st are not asked for, so that a broken octet() ends, too. */
    String written() {
        StringBuilder all = new StringBuilder();
        for (int k = 0; k <= 400 && x.octet(k) != -1; k++) {
            all.append((char) x.octet(k));
        }
        return all.toString();
    }
}
