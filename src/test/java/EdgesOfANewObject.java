import java.util.function.Consumer;
import java.util.function.ToIntFunction;

/** What each call answers or throws as the first one on a new object: promise 1, and the edge "none" of all others. */
public final class EdgesOfANewObject {
    public static void main(String[] args) {
        constants();
        answers();
        states();
        indexes();
        arguments();
        emptyPads();
        emptySnapshots();
        apartFromOthers();
        Check.end();
    }

    static void answers(String what, int due, ToIntFunction<SearchMill> call) {
        Check.due("1: " + what, call.applyAsInt(new SearchMill()), due);
    }

    static void fails(String what, Class<?> kind, Consumer<SearchMill> call) {
        Check.refused("1: " + what, kind, SearchMill::new, call);
    }

    static void constants() {
        Check.due("NONE", SearchMill.NONE, -1);
        Check.due("DOWN", SearchMill.DOWN, -2);
    }

    static void answers() {
        answers("type", 1, mill -> mill.type(' '));
        answers("wipe", 0, SearchMill::wipe);
        answers("text", 0, mill -> mill.text(0));
        answers("add", 1, mill -> mill.add(0));
        answers("delete", 0, mill -> mill.delete(0) ? 1 : 0);
        answers("flush", -1, SearchMill::flush);
        answers("due", -1, SearchMill::due);
        answers("prepare", 0, SearchMill::prepare);
        answers("isDown", 0, mill -> mill.isDown() ? 1 : 0);
        answers("files", 0, SearchMill::files);
        answers("writes", 0, SearchMill::writes);
        answers("segments", 0, SearchMill::segments);
        answers("look, fresh", 0, mill -> mill.look(true));
        answers("look", 0, mill -> mill.look(false));
        answers("scrap", 0, SearchMill::scrap);
        answers("weigh, field 0", 3, mill -> mill.weigh(0, 9));
        answers("weigh, field 1", 1, mill -> mill.weigh(1, 9));
        answers("skipped", 0, SearchMill::skipped);
        answers("cached", 0, SearchMill::cached);
    }

    static void states() {
        fails("stop", Check.STATE, SearchMill::stop);
        fails("synonym", Check.STATE, SearchMill::synonym);
        fails("merge", Check.STATE, SearchMill::merge);
        fails("step", Check.STATE, SearchMill::step);
        fails("giveUp", Check.STATE, SearchMill::giveUp);
        fails("finish", Check.STATE, SearchMill::finish);
        fails("drop", Check.STATE, SearchMill::drop);
        fails("open", Check.STATE, SearchMill::open);
        fails("least", Check.STATE, mill -> mill.least(2, 1));
        fails("but", Check.STATE, SearchMill::but);
        fails("query", Check.STATE, SearchMill::query);
    }

    static void indexes() {
        fails("segmentAt", Check.INDEX, mill -> mill.segmentAt(0));
        fails("live", Check.INDEX, mill -> mill.live(0));
        fails("keyAt", Check.INDEX, mill -> mill.keyAt(0, 0));
        fails("words", Check.INDEX, mill -> mill.words(0, 0));
        fails("shared", Check.INDEX, mill -> mill.shared(0, 0, 0));
        fails("wordBytes", Check.INDEX, mill -> mill.wordBytes(0, 0));
        fails("signAt", Check.INDEX, mill -> mill.signAt(0, 0, 0, 0));
        fails("bytes", Check.INDEX, mill -> mill.bytes(0, 0, 0));
        fails("byteAt", Check.INDEX, mill -> mill.byteAt(0, 0, 0, 0));
        fails("shut", Check.INDEX, mill -> mill.shut(0));
        fails("documents", Check.INDEX, mill -> mill.documents(0));
        fails("find", Check.INDEX, mill -> mill.find(0, 0, 1));
        fails("hitAt", Check.INDEX, mill -> mill.hitAt(0));
        fails("rankAt", Check.INDEX, mill -> mill.rankAt(0));
        fails("rankByScan", Check.INDEX, mill -> mill.rankByScan(0, 0, 0));
        fails("matches", Check.INDEX, mill -> mill.matches(0, 0));
        fails("matchesByScan", Check.INDEX, mill -> mill.matchesByScan(0, 0));
        fails("facet", Check.INDEX, mill -> mill.facet(0, 0, 0));
        fails("sortedAt", Check.INDEX, mill -> mill.sortedAt(0, 0, true, 0));
        fails("passages", Check.INDEX, mill -> mill.passages(0, 0, 0, 0));
        fails("passageAt", Check.INDEX, mill -> mill.passageAt(0, 0, 0, 0, 0));
    }

    static void arguments() {
        fails("type", Check.ARGUMENT, mill -> mill.type((char) 31));
        fails("columns", Check.ARGUMENT, mill -> mill.columns(10, 0));
        fails("crashAt", Check.ARGUMENT, mill -> mill.crashAt(1001));
        fails("phrase", Check.ARGUMENT, mill -> mill.phrase(0, 21));
        fails("near", Check.ARGUMENT, mill -> mill.near(0, 0, true));
        fails("fuzzy", Check.ARGUMENT, mill -> mill.fuzzy(0, 3));
        fails("least", Check.ARGUMENT, mill -> mill.least(1, 1));
        fails("weigh", Check.ARGUMENT, mill -> mill.weigh(0, 0));
    }

    static void emptyPads() {
        fails("term", Check.STATE, mill -> mill.term(0));
        fails("phrase", Check.STATE, mill -> mill.phrase(0, 0));
        fails("near", Check.STATE, mill -> mill.near(0, 1, false));
        fails("prefix", Check.STATE, mill -> mill.prefix(0));
        fails("wild", Check.STATE, mill -> mill.wild(0));
        fails("fuzzy", Check.STATE, mill -> mill.fuzzy(0, 0));
    }

    static void emptySnapshots() {
        SearchMill mill = new SearchMill();
        mill.look(true);
        Check.termQuery(mill, 0, "a");
        Check.due("35: no documents", mill.documents(0), 0);
        Check.due("47: no hits", mill.find(0, 0, 20), 0);
        Check.due("52: none", mill.rankByScan(0, 0, 0), SearchMill.NONE);
        Check.due("53: none", mill.matches(0, 0), 0);
        Check.due("54: none", mill.matchesByScan(0, 0), 0);
        Check.due("55: none", mill.facet(0, 0, 9), 0);
        Check.fails("56: none", Check.INDEX, () -> mill.sortedAt(0, 0, false, 0));
        Check.due("57: none", mill.passages(0, 0, 99, 1), 0);
        Check.due("58: none", mill.passageAt(0, 0, 99, 1, 0), SearchMill.NONE);
        Check.due("34: no files", mill.shut(0), 0);
    }

    /** Two objects have nothing in common. */
    static void apartFromOthers() {
        SearchMill one = new SearchMill();
        SearchMill other = new SearchMill();
        Check.typed(one, "the").stop();
        Check.typed(one, "a b").synonym();
        one.weigh(0, 9);
        Check.added(one, 1, "a");
        one.flush();
        one.look(true);
        Check.termQuery(one, 0, "a");
        one.find(0, 0, 1);
        Check.typed(one, "pad");
        Check.due("1: the other's pad", other.wipe(), 0);
        Check.due("1: the other's rules", Check.typed(other, "the a").text(0), 2);
        Check.due("1: the other's index", other.segments(), 0);
        Check.due("1: the other's writes", other.writes(), 0);
        Check.due("1: the other's weights", other.weigh(0, 9), 3);
        Check.due("1: the other's numbers of snapshots", other.look(true), 0);
        Check.due("1: the other's queries", Check.termQuery(other, 0, "a"), 0);
        Check.due("1: the other's cache", other.find(0, 0, 1) + other.cached(), 0);
    }
}
