/**
 * Tells what a machine is like, so that two of them can be compared. Most of what it has inside is seen only by calls
 * that change it: so there are ways, each for a machine of its own.
 */
public final class Probe {
    public static final int WAYS = 17;
    private static final int NOTHING = -7;

    private interface Call {
        long make();
    }

    private final SearchMill mill;
    private final StringBuilder told = new StringBuilder();

    private Probe(SearchMill mill) {
        this.mill = mill;
    }

    public static String tell(SearchMill mill, int way) {
        Probe probe = new Probe(mill);
        switch (way) {
            case 0 -> probe.state();
            case 1 -> probe.index();
            case 2 -> probe.found();
            case 3 -> probe.snapshots();
            case 4 -> probe.pad();
            case 5 -> probe.rules();
            case 6 -> probe.draftTexts();
            case 7 -> probe.draftColumns();
            case 8 -> probe.parts();
            case 9 -> probe.query();
            case 10 -> probe.buffer();
            case 11 -> probe.merging();
            case 12 -> probe.prepared();
            case 13 -> probe.dropped();
            case 14 -> probe.crash();
            case 15 -> probe.cache();
            default -> probe.weights();
        }
        return probe.told.toString();
    }

    /** Tells an answer, or the exception in place of it; then this answers a number that nothing has. */
    private int ask(String what, Call call) {
        long got = NOTHING;
        String answer;
        try {
            got = call.make();
            answer = Long.toString(got);
        } catch (RuntimeException e) {
            answer = e.getClass().getSimpleName();
        }
        told.append(what).append('=').append(answer).append(' ');
        return (int) got;
    }

    private void drop() {
        ask("drop", () -> {
            mill.drop();
            return 0;
        });
    }

    private void state() {
        ask("isDown", () -> mill.isDown() ? 1 : 0);
        ask("writes", mill::writes);
        ask("files", mill::files);
        ask("segments", mill::segments);
        ask("due", mill::due);
        ask("open", mill::open);
        ask("segments", mill::segments);
        ask("files", mill::files);
    }

    private void index() {
        for (int p = 0; p < 4; p++) {
            int place = p;
            ask("segmentAt", () -> mill.segmentAt(place));
            ask("live", () -> mill.live(place));
            for (int d = 0; d < 3; d++) {
                int document = d;
                ask("keyAt", () -> mill.keyAt(place, document));
            }
            words(place);
        }
    }

    private void words(int place) {
        for (int f = 0; f < 2; f++) {
            int field = f;
            ask("words", () -> mill.words(place, field));
            for (int w = 0; w < 2; w++) {
                int word = w;
                ask("signAt", () -> mill.signAt(place, field, word, 0));
                ask("signAt", () -> mill.signAt(place, field, word, 1));
                ask("bytes", () -> mill.bytes(place, field, word));
                ask("byteAt", () -> mill.byteAt(place, field, word, 0));
            }
        }
    }

    private void found() {
        ask("skipped", mill::skipped);
        ask("cached", mill::cached);
        for (int i = 0; i < 5; i++) {
            int place = i;
            ask("hitAt", () -> mill.hitAt(place));
            ask("rankAt", () -> mill.rankAt(place));
        }
    }

    private void snapshots() {
        for (int i = 0; i < 7; i++) {
            int snapshot = i;
            ask("documents", () -> mill.documents(snapshot));
            ask("shut", () -> mill.shut(snapshot));
        }
        ask("look", () -> mill.look(true));
        ask("documents", () -> mill.documents(7));
        ask("look", () -> mill.look(false));
    }

    /** What is on the pad: its words are those of a new segment. */
    private void pad() {
        ask("flush", mill::flush);
        ask("text", () -> mill.text(0));
        newSegment();
    }

    private void newSegment() {
        ask("open", mill::open);
        ask("add", () -> mill.add(97));
        ask("flush", mill::flush);
        words(ask("segments", mill::segments) - 1);
    }

    private void rules() {
        ask("wipe", mill::wipe);
        Check.typed(mill, "aa");
        ask("stop", mill::stop);
        ask("wipe", mill::wipe);
        Check.typed(mill, "bb cc");
        ask("synonym", mill::synonym);
        ask("wipe", mill::wipe);
        Check.typed(mill, "aa bb the dog");
        ask("text", () -> mill.text(0));
    }

    private void draftTexts() {
        ask("flush", mill::flush);
        newSegment();
    }

    /** The category and the number of the draft, beside those of others. */
    private void draftColumns() {
        int[] numbers = {0, 7, 500, 999};
        ask("open", mill::open);
        ask("flush", mill::flush);
        ask("wipe", mill::wipe);
        ask("scrap", mill::scrap);
        for (int i = 0; i <= numbers.length; i++) {
            int key = 90 + i;
            Check.typed(mill, "zzz").text(1);
            ask("add", () -> mill.add(key));
            if (i < numbers.length) {
                mill.columns(9, numbers[i]);
            }
        }
        ask("flush", mill::flush);
        Check.typed(mill, "zzz").term(1);
        int query = ask("query", mill::query);
        for (int s = 0; s < 7; s++) {
            int snapshot = s;
            ask("shut", () -> mill.shut(snapshot));
        }
        int fresh = ask("look", () -> mill.look(true));
        for (int i = 0; i < 10; i++) {
            int at = i;
            ask("facet", () -> mill.facet(fresh, query, at));
        }
        for (int i = 0; i < 5; i++) {
            int at = i;
            ask("sortedAt", () -> mill.sortedAt(fresh, query, false, at));
        }
    }

    private int openSnapshot() {
        int open = NOTHING;
        for (int s = 8; s >= 0; s--) {
            int snapshot = s;
            open = ask("documents", () -> mill.documents(snapshot)) == NOTHING ? open : snapshot;
        }
        return open;
    }

    private void parts() {
        ask("wipe", mill::wipe);
        ask("scrap", mill::scrap);
        Check.typed(mill, "a").term(0);
        ask("query", mill::query);
    }

    /** What the parts are: joined to a query, and asked. */
    private void query() {
        ask("query", mill::query);
        for (int i = 8; i > 1; i--) {
            int parts = i;
            ask("least", () -> mill.least(parts, 1));
        }
        ask("query", mill::query);
        int snapshot = openSnapshot();
        for (int q = 0; q < 4; q++) {
            int query = q;
            ask("matches", () -> mill.matches(snapshot, query));
            for (int k = 0; k < 3; k++) {
                int key = k;
                ask("rankByScan", () -> mill.rankByScan(snapshot, query, key));
            }
        }
    }

    private void buffer() {
        ask("open", mill::open);
        for (int k = 0; k < 14; k++) {
            int key = k;
            ask("delete", () -> mill.delete(key) ? 1 : 0);
        }
        ask("flush", mill::flush);
        ask("segments", mill::segments);
        ask("writes", mill::writes);
    }

    private void merging() {
        for (int i = 0; i < 5; i++) {
            ask("step", mill::step);
        }
        ask("segments", mill::segments);
        ask("giveUp", mill::giveUp);
        ask("merge", mill::merge);
        ask("writes", mill::writes);
    }

    private void prepared() {
        ask("finish", mill::finish);
        ask("prepare", mill::prepare);
        ask("writes", mill::writes);
        ask("finish", mill::finish);
        ask("files", mill::files);
        ask("look", () -> mill.look(false));
        ask("documents", () -> mill.documents(0));
        ask("documents", () -> mill.documents(1));
    }

    private void dropped() {
        drop();
        ask("files", mill::files);
        ask("prepare", mill::prepare);
        ask("writes", mill::writes);
    }

    /** When a crash comes, and to what. */
    private void crash() {
        for (int i = 0; i < 12; i++) {
            ask("prepare", mill::prepare);
            drop();
        }
        ask("writes", mill::writes);
        ask("open", mill::open);
        ask("live", () -> mill.live(0));
        ask("prepare", mill::prepare);
        ask("finish", mill::finish);
    }

    private void cache() {
        for (int s = 0; s < 2; s++) {
            int snapshot = s;
            for (int q = 0; q < 3; q++) {
                int query = q;
                ask("find", () -> mill.find(snapshot, query, 1));
                ask("cached", mill::cached);
                ask("skipped", mill::skipped);
            }
        }
    }

    private void weights() {
        ask("weigh", () -> mill.weigh(0, 1));
        ask("weigh", () -> mill.weigh(1, 1));
    }
}
