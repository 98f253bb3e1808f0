/** All that calls show of an object, as one text, so that two objects can be held against one another. */
final class State {
    private State() {
    }

    /** What a refused call must leave as it was; some 150 calls for four marks. */
    static String of(MarkChains x) {
        StringBuilder all = new StringBuilder(counts(x));
        for (int sort = 0; sort < 3; sort++) {
            for (int i = 0; i < x.is(sort); i++) {
                all.append(" t").append(x.told(sort, i, 0)).append(',').append(x.told(sort, i, 1));
            }
        }
        for (int k = 0; k < x.is(3); k++) {
            all.append(" m");
            for (int what = 0; what <= 11; what++) {
                all.append(x.mark(k, what)).append(',');
            }
            all.append(x.good(k)).append(',').append(x.points(k)).append(',').append(x.missing(k));
        }
        return all.append(reports(x)).toString();
    }

    static String counts(MarkChains x) {
        StringBuilder all = new StringBuilder("is");
        for (int what = 0; what <= 11; what++) {
            all.append(' ').append(x.is(what));
        }
        return all.toString();
    }

    private static String reports(MarkChains x) {
        StringBuilder all = new StringBuilder(" fault ").append(x.fault()).append(" ended ").append(x.ended()).append(" rows");
        for (int k = 0; k < 3; k++) {
            all.append(' ').append(x.row(k));
        }
        all.append(" octets");
        for (int k = 0; k < 12; k++) {
            all.append(' ').append(x.octet(k));
        }
        return all.toString();
    }
}
