import java.util.ArrayList;
import java.util.Collection;
import java.util.HashSet;
import java.util.LinkedHashMap;
import java.util.LinkedList;
import java.util.List;
import java.util.Map;
import java.util.Set;
import java.util.TreeMap;
import java.util.TreeSet;

/** The document told a second time, as plainly as it can be, to be asked beside the program. */
public final class Oracle {
    static final int NONE = -1;
    static final int DOWN = -2;

    record Token(int place, String word) { }

    static final class Doc {
        int key;
        int category;
        int number;
        final List<List<Token>> texts = new ArrayList<>();
    }

    record Segment(int number, List<Doc> docs) {
        @Override public boolean equals(Object other) {
            return this == other;
        }

        @Override public int hashCode() {
            return number;
        }
    }

    interface Part {
        /** What it gives; null if it does not match. */
        Integer gives(Doc doc, Ranking ranking);

        int leaves();

        void collect(List<Leaf> into);
    }

    interface Ranking {
        int rarity(int field, String token);

        int weight(int field);
    }

    abstract static class Leaf implements Part {
        int field;

        abstract Set<Integer> marked(Doc doc);

        abstract int worth(int count, Ranking ranking);

        abstract int firstCount(Doc doc);

        @Override public Integer gives(Doc doc, Ranking ranking) {
            Set<Integer> places = marked(doc);
            return places.isEmpty() ? null : Integer.valueOf(worth(places.size(), ranking));
        }

        @Override public int leaves() {
            return 1;
        }

        @Override public void collect(List<Leaf> into) {
            into.add(this);
        }
    }

    static Set<Integer> placesOf(Doc doc, int field, String token) {
        Set<Integer> places = new TreeSet<>();
        for (Token t : doc.texts.get(field)) {
            if (t.word.equals(token)) {
                places.add(t.place);
            }
        }
        return places;
    }

    static int strength(int c) {
        return 64 * c / (c + 1);
    }

    static class Counted extends Leaf {
        List<Token> tokens;

        @Override Set<Integer> marked(Doc doc) {
            return placesOf(doc, field, tokens.get(0).word);
        }

        @Override int worth(int count, Ranking ranking) {
            int sum = 0;
            for (Token t : tokens) {
                sum += ranking.rarity(field, t.word);
            }
            return ranking.weight(field) * strength(count) * sum;
        }

        @Override int firstCount(Doc doc) {
            return placesOf(doc, field, tokens.get(0).word).size();
        }
    }

    static final class Phrase extends Counted {
        int slop;

        @Override Set<Integer> marked(Doc doc) {
            Set<Integer> marked = new TreeSet<>();
            for (int place : placesOf(doc, field, tokens.get(0).word)) {
                if (goesOn(doc, 1, place, place)) {
                    marked.add(place);
                }
            }
            return marked;
        }

        private boolean goesOn(Doc doc, int next, int first, int last) {
            if (next == tokens.size()) {
                int pad = tokens.get(next - 1).place - tokens.get(0).place;
                return last - first <= pad + slop;
            }
            int gap = tokens.get(next).place - tokens.get(next - 1).place;
            for (int place : placesOf(doc, field, tokens.get(next).word)) {
                if (place - last >= gap && goesOn(doc, next + 1, first, place)) {
                    return true;
                }
            }
            return false;
        }
    }

    static final class Near extends Counted {
        int distance;
        boolean isOrdered;

        @Override Set<Integer> marked(Doc doc) {
            Set<Integer> marked = new TreeSet<>();
            for (int one : placesOf(doc, field, tokens.get(0).word)) {
                for (int other : placesOf(doc, field, tokens.get(1).word)) {
                    int apart = isOrdered ? other - one : Math.abs(other - one);
                    if (apart >= 1 && apart <= distance) {
                        marked.add(one);
                    }
                }
            }
            return marked;
        }
    }

    static final class Told extends Leaf {
        java.util.function.Predicate<String> test;

        @Override Set<Integer> marked(Doc doc) {
            Set<Integer> marked = new TreeSet<>();
            for (Token t : doc.texts.get(field)) {
                if (test.test(t.word)) {
                    marked.add(t.place);
                }
            }
            return marked;
        }

        @Override int worth(int count, Ranking ranking) {
            return 32 * ranking.weight(field);
        }

        @Override int firstCount(Doc doc) {
            return marked(doc).size();
        }
    }

    static final class Group implements Part {
        List<Part> parts;
        int least;

        @Override public Integer gives(Doc doc, Ranking ranking) {
            int sum = 0;
            int count = 0;
            for (Part part : parts) {
                Integer gives = part.gives(doc, ranking);
                if (gives != null) {
                    sum += gives;
                    count++;
                }
            }
            return count < least ? null : Integer.valueOf(sum);
        }

        @Override public int leaves() {
            return parts.stream().mapToInt(Part::leaves).sum();
        }

        @Override public void collect(List<Leaf> into) {
            for (Part part : parts) {
                part.collect(into);
            }
        }
    }

    static final class But implements Part {
        Part one;
        Part without;

        @Override public Integer gives(Doc doc, Ranking ranking) {
            return without.gives(doc, ranking) != null ? null : one.gives(doc, ranking);
        }

        @Override public int leaves() {
            return one.leaves() + without.leaves();
        }

        @Override public void collect(List<Leaf> into) {
            one.collect(into);
        }
    }

    static final class View {
        final Map<Segment, Set<Doc>> live = new LinkedHashMap<>();

        int size() {
            int sum = 0;
            for (Set<Doc> docs : live.values()) {
                sum += docs.size();
            }
            return sum;
        }

        List<Doc> liveDocs() {
            List<Doc> all = new ArrayList<>();
            for (Map.Entry<Segment, Set<Doc>> entry : live.entrySet()) {
                for (Doc doc : entry.getKey().docs) {
                    if (entry.getValue().contains(doc)) {
                        all.add(doc);
                    }
                }
            }
            return all;
        }

        Doc withKey(int key) {
            for (Doc doc : liveDocs()) {
                if (doc.key == key) {
                    return doc;
                }
            }
            return null;
        }
    }

    String pad = "";
    final Set<String> stops = new HashSet<>();
    final List<String[]> synonyms = new ArrayList<>();
    boolean wasAdded;
    final String[] draftTexts = {"", ""};
    int draftCategory;
    int draftNumber;
    List<Doc> buffer = new ArrayList<>();
    List<Segment> index = new ArrayList<>();
    /** Documents of segments of the index that are not live. */
    Set<Doc> dead = new HashSet<>();
    List<Segment> sources;
    List<Doc> toCopy;
    int copied;
    View commit;
    View prepared;
    final Map<Integer, View> open = new TreeMap<>();
    int looks;
    final List<Part> parts = new ArrayList<>();
    final List<Part> queries = new ArrayList<>();
    final int[] weights = {3, 1};
    int made;
    int finished;
    int written;
    int crash = -1;
    boolean down;
    final LinkedList<int[]> cache = new LinkedList<>();
    List<int[]> hits = new ArrayList<>();
    int skipped;
    int cached;

    static void state(boolean isWrong) {
        if (isWrong) {
            throw new IllegalStateException();
        }
    }

    static void argument(boolean isWrong) {
        if (isWrong) {
            throw new IllegalArgumentException();
        }
    }

    static void index(boolean isWrong) {
        if (isWrong) {
            throw new IndexOutOfBoundsException();
        }
    }

    static void field(int field) {
        index(field != 0 && field != 1);
    }

    static void key(int key) {
        index(key < 0 || key > 99);
    }

    static List<String> wordsOf(String signs) {
        List<String> words = new ArrayList<>();
        for (String word : signs.toLowerCase(java.util.Locale.ROOT).split("[^a-z0-9]+")) {
            if (!word.isEmpty()) {
                words.add(word.length() > 12 ? word.substring(0, 12) : word);
            }
        }
        return words;
    }

    static String stem(String word) {
        int n = word.length();
        if (word.endsWith("ing") && n >= 6) {
            return word.substring(0, n - 3);
        }
        if (word.endsWith("ed") && n >= 5) {
            return word.substring(0, n - 2);
        }
        if (word.endsWith("s") && !word.endsWith("ss") && n >= 4) {
            return word.substring(0, n - 1);
        }
        return word;
    }

    List<Token> tokens(String signs, boolean isWide) {
        List<Token> tokens = new ArrayList<>();
        int place = 0;
        for (String word : wordsOf(signs)) {
            String stem = stem(word);
            if (!stops.contains(stem)) {
                tokens.add(new Token(place, stem));
                for (String[] synonym : synonyms) {
                    Token token = new Token(place, synonym[1]);
                    if (isWide && synonym[0].equals(stem) && !tokens.contains(token)) {
                        tokens.add(token);
                    }
                }
            }
            place++;
        }
        return tokens;
    }

    int type(char sign) {
        argument(sign < 32 || sign > 126);
        state(pad.length() == 40);
        pad += sign;
        return pad.length();
    }

    int wipe() {
        int length = pad.length();
        pad = "";
        return length;
    }

    int stop() {
        state(wordsOf(pad).size() != 1 || stops.size() == 10 || wasAdded);
        stops.add(stem(wordsOf(pad).get(0)));
        pad = "";
        return stops.size();
    }

    int synonym() {
        List<String> words = wordsOf(pad);
        state(words.size() != 2 || synonyms.size() == 10 || wasAdded);
        synonyms.add(new String[] {stem(words.get(0)), stem(words.get(1))});
        pad = "";
        return synonyms.size();
    }

    int text(int field) {
        field(field);
        draftTexts[field] = pad;
        pad = "";
        return tokens(draftTexts[field], true).size();
    }

    void columns(int category, int number) {
        argument(category < 0 || category > 9 || number < 0 || number > 999);
        draftCategory = category;
        draftNumber = number;
    }

    private boolean kill(int key) {
        if (buffer.removeIf(doc -> doc.key == key)) {
            return true;
        }
        for (Segment segment : index) {
            for (Doc doc : segment.docs) {
                if (doc.key == key && dead.add(doc)) {
                    return true;
                }
            }
        }
        return false;
    }

    int add(int key) {
        key(key);
        state(down || buffer.size() == 12 && buffer.stream().noneMatch(doc -> doc.key == key));
        kill(key);
        Doc doc = new Doc();
        doc.key = key;
        doc.category = draftCategory;
        doc.number = draftNumber;
        doc.texts.add(tokens(draftTexts[0], true));
        doc.texts.add(tokens(draftTexts[1], true));
        buffer.add(doc);
        draftTexts[0] = "";
        draftTexts[1] = "";
        draftCategory = 0;
        draftNumber = 0;
        wasAdded = true;
        return buffer.size();
    }

    boolean delete(int key) {
        key(key);
        state(down);
        return kill(key);
    }

    private boolean write() {
        if (crash == 0) {
            down = true;
            crash = -1;
            buffer = new ArrayList<>();
            sources = null;
            toCopy = null;
            open.clear();
            cache.clear();
            hits = new ArrayList<>();
            skipped = 0;
            cached = 0;
            prepared = null;
            return false;
        }
        crash = crash < 0 ? crash : crash - 1;
        written++;
        return true;
    }

    private int doFlush() {
        if (buffer.isEmpty()) {
            return NONE;
        }
        int writes = buffer.size() + 1;
        while (writes-- > 0) {
            if (!write()) {
                return DOWN;
            }
        }
        index.add(new Segment(made++, buffer));
        buffer = new ArrayList<>();
        return made - 1;
    }

    int flush() {
        state(down || made >= 200);
        return doFlush();
    }

    static int tier(int docs) {
        return docs < 3 ? 0 : 1 + tier(docs / 3);
    }

    int due() {
        state(down);
        for (int i = 0; i < index.size() - 2; i++) {
            int tier = tier(index.get(i).docs.size());
            if (tier == tier(index.get(i + 1).docs.size()) && tier == tier(index.get(i + 2).docs.size())) {
                return i;
            }
        }
        return NONE;
    }

    int merge() {
        state(down || due() == NONE || sources != null || made >= 200);
        int place = due();
        sources = new ArrayList<>(index.subList(place, place + 3));
        toCopy = new ArrayList<>();
        for (Segment segment : sources) {
            for (Doc doc : segment.docs) {
                if (!dead.contains(doc)) {
                    toCopy.add(doc);
                }
            }
        }
        copied = 0;
        return toCopy.size();
    }

    int step() {
        state(down || sources == null);
        if (!write()) {
            return DOWN;
        }
        if (copied < toCopy.size()) {
            copied++;
            return toCopy.size() - copied;
        }
        int place = index.indexOf(sources.get(0));
        index.removeAll(sources);
        if (copied > 0) {
            List<Doc> copies = new ArrayList<>();
            for (Doc doc : toCopy) {
                Doc copy = new Doc();
                copy.key = doc.key;
                copy.category = doc.category;
                copy.number = doc.number;
                copy.texts.addAll(doc.texts);
                copies.add(copy);
                if (dead.contains(doc)) {
                    dead.add(copy);
                }
            }
            index.add(place, new Segment(made++, copies));
        }
        sources = null;
        return NONE;
    }

    int giveUp() {
        state(down || sources == null);
        sources = null;
        return copied;
    }

    private View current() {
        View view = new View();
        for (Segment segment : index) {
            Set<Doc> live = new HashSet<>(segment.docs);
            live.removeAll(dead);
            view.live.put(segment, live);
        }
        return view;
    }

    int prepare() {
        state(down || prepared != null || made >= 200 && !buffer.isEmpty());
        if (doFlush() == DOWN) {
            return DOWN;
        }
        for (Map.Entry<Segment, Set<Doc>> entry : current().live.entrySet()) {
            Set<Doc> last = new HashSet<>(entry.getKey().docs);
            if (commit != null && commit.live.containsKey(entry.getKey())) {
                last = commit.live.get(entry.getKey());
            }
            if (!last.equals(entry.getValue()) && !write()) {
                return DOWN;
            }
        }
        if (!write()) {
            return DOWN;
        }
        prepared = current();
        return index.size();
    }

    int finish() {
        state(down || prepared == null);
        if (!write()) {
            return DOWN;
        }
        commit = prepared;
        prepared = null;
        return ++finished;
    }

    void drop() {
        state(down || prepared == null);
        prepared = null;
    }

    void crashAt(int writes) {
        argument(writes < 0 || writes > 1000);
        state(down);
        crash = writes;
    }

    int open() {
        state(!down);
        down = false;
        index = new ArrayList<>();
        dead = new HashSet<>();
        if (commit != null) {
            for (Segment segment : commit.live.keySet()) {
                index.add(segment);
                dead.addAll(segment.docs);
                dead.removeAll(commit.live.get(segment));
            }
        }
        return index.size();
    }

    boolean isDown() {
        return down;
    }

    private int fileCount() {
        Set<Integer> segments = new HashSet<>();
        List<View> views = new ArrayList<>(open.values());
        if (!down) {
            views.add(current());
        }
        int more = 0;
        Set<List<Object>> deletions = new HashSet<>();
        for (View view : new View[] {commit, prepared}) {
            if (view != null) {
                more++;
                views.add(view);
                for (Map.Entry<Segment, Set<Doc>> entry : view.live.entrySet()) {
                    if (entry.getValue().size() < entry.getKey().docs.size()) {
                        deletions.add(List.of(entry.getKey().number, entry.getValue()));
                    }
                }
            }
        }
        for (View view : views) {
            for (Segment segment : view.live.keySet()) {
                segments.add(segment.number);
            }
        }
        return segments.size() + more + deletions.size() + (sources != null && copied > 0 ? 1 : 0);
    }

    int files() {
        state(down);
        return fileCount();
    }

    int writes() {
        return written;
    }

    int segments() {
        state(down);
        return index.size();
    }

    private Segment segment(int place) {
        index(down || place < 0 || place >= index.size());
        return index.get(place);
    }

    int segmentAt(int place) {
        return segment(place).number;
    }

    int live(int place) {
        int count = 0;
        for (Doc doc : segment(place).docs) {
            count += dead.contains(doc) ? 0 : 1;
        }
        return count;
    }

    int keyAt(int place, int document) {
        Segment segment = segment(place);
        index(document < 0 || document >= segment.docs.size());
        return segment.docs.get(document).key;
    }

    private List<String> wordList(int place, int field) {
        Segment segment = segment(place);
        field(field);
        Set<String> words = new TreeSet<>();
        for (Doc doc : segment.docs) {
            for (Token t : doc.texts.get(field)) {
                words.add(t.word);
            }
        }
        return new ArrayList<>(words);
    }

    private String wordAt(int place, int field, int word) {
        List<String> words = wordList(place, field);
        index(word < 0 || word >= words.size());
        return words.get(word);
    }

    int words(int place, int field) {
        return wordList(place, field).size();
    }

    int shared(int place, int field, int word) {
        String own = wordAt(place, field, word);
        String other = word == 0 ? "" : wordAt(place, field, word - 1);
        int count = 0;
        while (count < own.length() && other.startsWith(own.substring(0, count + 1))) {
            count++;
        }
        return count;
    }

    int wordBytes(int place, int field) {
        int sum = 0;
        for (int i = 0; i < words(place, field); i++) {
            sum += 2 + wordAt(place, field, i).length() - shared(place, field, i);
        }
        return sum;
    }

    char signAt(int place, int field, int word, int sign) {
        String own = wordAt(place, field, word);
        return sign < 0 || sign >= own.length() ? ' ' : own.charAt(sign);
    }

    private String bits(int place, int field, int word) {
        String own = wordAt(place, field, word);
        List<Integer> numbers = new ArrayList<>();
        List<Doc> docs = segment(place).docs;
        int ahead = -1;
        for (int i = 0; i < docs.size(); i++) {
            Collection<Integer> places = placesOf(docs.get(i), field, own);
            if (!places.isEmpty()) {
                numbers.add(i - ahead - 1);
                ahead = i;
                numbers.add(places.size() - 1);
                int last = -1;
                for (int p : places) {
                    numbers.add(p - last - 1);
                    last = p;
                }
            }
        }
        StringBuilder bits = new StringBuilder();
        for (int i = 0; i < numbers.size(); i += 4) {
            List<Integer> group = numbers.subList(i, Math.min(i + 4, numbers.size()));
            int greatest = group.stream().mapToInt(Integer::intValue).max().getAsInt();
            int width = greatest == 0 ? 0 : Integer.toBinaryString(greatest).length();
            bits.append(padded(width, 4));
            for (int number : group) {
                bits.append(padded(number, width));
            }
        }
        while (bits.length() % 8 != 0) {
            bits.append('0');
        }
        return bits.toString();
    }

    private static String padded(int number, int width) {
        if (width == 0) {
            return "";
        }
        String digits = Integer.toBinaryString(number);
        return "0".repeat(width - digits.length()) + digits;
    }

    int bytes(int place, int field, int word) {
        return bits(place, field, word).length() / 8;
    }

    int byteAt(int place, int field, int word, int at) {
        String bits = bits(place, field, word);
        index(at < 0 || at >= bits.length() / 8);
        return (byte) Integer.parseInt(bits.substring(at * 8, at * 8 + 8), 2);
    }

    int look(boolean isFresh) {
        state(down || open.size() == 5);
        View view = new View();
        if (isFresh) {
            view = current();
        } else if (commit != null) {
            view.live.putAll(commit.live);
        }
        open.put(looks, view);
        return looks++;
    }

    private View view(int snapshot) {
        index(!open.containsKey(snapshot));
        return open.get(snapshot);
    }

    private Part asked(int query) {
        index(query < 0 || query >= queries.size());
        return queries.get(query);
    }

    int shut(int snapshot) {
        view(snapshot);
        open.remove(snapshot);
        return fileCount();
    }

    int documents(int snapshot) {
        return view(snapshot).size();
    }

    private int put(Leaf leaf, int field) {
        leaf.field = field;
        parts.add(leaf);
        pad = "";
        return parts.size();
    }

    private boolean isFull() {
        return parts.size() == 8 || parts.stream().mapToInt(Part::leaves).sum() == 24;
    }

    int term(int field) {
        field(field);
        List<Token> tokens = tokens(pad, false);
        state(tokens.size() != 1 || isFull());
        Counted leaf = new Counted();
        leaf.tokens = tokens;
        return put(leaf, field);
    }

    int phrase(int field, int slop) {
        field(field);
        argument(slop < 0 || slop > 20);
        List<Token> tokens = tokens(pad, false);
        state(tokens.isEmpty() || tokens.size() > 6 || isFull());
        Phrase leaf = new Phrase();
        leaf.tokens = tokens;
        leaf.slop = slop;
        return put(leaf, field);
    }

    int near(int field, int distance, boolean isOrdered) {
        field(field);
        argument(distance < 1 || distance > 20);
        List<Token> tokens = tokens(pad, false);
        state(tokens.size() != 2 || isFull());
        Near leaf = new Near();
        leaf.tokens = tokens;
        leaf.distance = distance;
        leaf.isOrdered = isOrdered;
        return put(leaf, field);
    }

    int prefix(int field) {
        field(field);
        List<String> words = wordsOf(pad);
        state(words.size() != 1 || isFull());
        Told leaf = new Told();
        leaf.test = token -> token.startsWith(words.get(0));
        return put(leaf, field);
    }

    int wild(int field) {
        field(field);
        state(!pad.matches("[a-zA-Z0-9?*]{1,12}") || isFull());
        String pattern = pad.toLowerCase(java.util.Locale.ROOT).replace("?", ".").replace("*", ".*");
        Told leaf = new Told();
        leaf.test = token -> token.matches(pattern);
        return put(leaf, field);
    }

    static boolean canBeMade(String from, String to, int edits) {
        if (edits < 0) {
            return false;
        }
        if (from.isEmpty() || to.isEmpty()) {
            return from.length() + to.length() <= edits;
        }
        String fromRest = from.substring(1);
        String toRest = to.substring(1);
        return from.charAt(0) == to.charAt(0) && canBeMade(fromRest, toRest, edits)
            || canBeMade(fromRest, to, edits - 1)
            || canBeMade(from, toRest, edits - 1)
            || canBeMade(fromRest, toRest, edits - 1);
    }

    int fuzzy(int field, int edits) {
        field(field);
        argument(edits < 0 || edits > 2);
        List<String> words = wordsOf(pad);
        state(words.size() != 1 || isFull());
        Told leaf = new Told();
        leaf.test = token -> canBeMade(words.get(0), token, edits);
        return put(leaf, field);
    }

    int least(int count, int least) {
        argument(count < 2 || count > 8 || least < 1 || least > count);
        state(parts.size() < count);
        List<Part> last = parts.subList(parts.size() - count, parts.size());
        Group group = new Group();
        group.parts = new ArrayList<>(last);
        group.least = least;
        last.clear();
        parts.add(group);
        return parts.size();
    }

    int but() {
        state(parts.size() < 2);
        But but = new But();
        but.without = parts.remove(parts.size() - 1);
        but.one = parts.remove(parts.size() - 1);
        parts.add(but);
        return parts.size();
    }

    int query() {
        state(parts.size() != 1 || queries.size() == 40);
        queries.add(parts.remove(0));
        return queries.size() - 1;
    }

    int scrap() {
        int count = parts.size();
        parts.clear();
        return count;
    }

    int weigh(int field, int weight) {
        field(field);
        argument(weight < 1 || weight > 9);
        int before = weights[field];
        weights[field] = weight;
        return before;
    }

    private Ranking ranking(View view) {
        List<Doc> docs = view.liveDocs();
        return new Ranking() {
            @Override public int rarity(int field, String token) {
                int having = 0;
                for (Doc doc : docs) {
                    having += placesOf(doc, field, token).isEmpty() ? 0 : 1;
                }
                int quotient = (docs.size() + 1) / (having + 1);
                return 1 + Integer.toBinaryString(quotient).length() - 1;
            }

            @Override public int weight(int field) {
                return weights[field];
            }
        };
    }

    int find(int snapshot, int query, int most) {
        View view = view(snapshot);
        Part part = asked(query);
        argument(most < 1 || most > 20);
        Ranking ranking = ranking(view);
        List<Leaf> leaves = new ArrayList<>();
        part.collect(leaves);
        hits = new ArrayList<>();
        skipped = 0;
        cached = 0;
        for (Map.Entry<Segment, Set<Doc>> entry : view.live.entrySet()) {
            Segment segment = entry.getKey();
            if (cache.removeIf(e -> e[0] == query && e[1] == segment.number)) {
                cached++;
            }
            cache.addLast(new int[] {query, segment.number});
            if (cache.size() > 8) {
                cache.removeFirst();
            }
            for (int from = 0; from < segment.docs.size(); from += 4) {
                List<Doc> block = segment.docs.subList(from, Math.min(from + 4, segment.docs.size()));
                if (hits.size() == most && bound(leaves, block, ranking) <= hits.get(most - 1)[1]) {
                    skipped++;
                    continue;
                }
                for (Doc doc : block) {
                    Integer rank = part.gives(doc, ranking);
                    if (rank != null && entry.getValue().contains(doc)) {
                        hits.add(new int[] {doc.key, rank});
                        hits.sort((a, b) -> Integer.compare(b[1], a[1]));
                        if (hits.size() > most) {
                            hits.remove(most);
                        }
                    }
                }
            }
        }
        return hits.size();
    }

    private static int bound(List<Leaf> leaves, List<Doc> block, Ranking ranking) {
        int sum = 0;
        for (Leaf leaf : leaves) {
            int greatest = 0;
            for (Doc doc : block) {
                greatest = Math.max(greatest, leaf.firstCount(doc));
            }
            sum += greatest == 0 ? 0 : leaf.worth(greatest, ranking);
        }
        return sum;
    }

    int hitAt(int place) {
        index(place < 0 || place >= hits.size());
        return hits.get(place)[0];
    }

    int rankAt(int place) {
        index(place < 0 || place >= hits.size());
        return hits.get(place)[1];
    }

    int skipped() {
        return skipped;
    }

    int cached() {
        return cached;
    }

    int rankByScan(int snapshot, int query, int key) {
        View view = view(snapshot);
        Part part = asked(query);
        key(key);
        Doc doc = view.withKey(key);
        Integer rank = doc == null ? null : part.gives(doc, ranking(view));
        return rank == null ? NONE : rank;
    }

    private List<Doc> matching(int snapshot, int query) {
        View view = view(snapshot);
        Part part = asked(query);
        Ranking ranking = ranking(view);
        List<Doc> docs = view.liveDocs();
        docs.removeIf(doc -> part.gives(doc, ranking) == null);
        return docs;
    }

    int matches(int snapshot, int query) {
        return matching(snapshot, query).size();
    }

    int facet(int snapshot, int query, int category) {
        List<Doc> docs = matching(snapshot, query);
        argument(category < 0 || category > 9);
        docs.removeIf(doc -> doc.category != category);
        return docs.size();
    }

    int sortedAt(int snapshot, int query, boolean isFalling, int place) {
        List<Doc> docs = matching(snapshot, query);
        docs.sort((a, b) -> isFalling ? Integer.compare(b.number, a.number) : Integer.compare(a.number, b.number));
        index(place < 0 || place >= docs.size());
        return docs.get(place).key;
    }

    private List<Integer> passageList(int snapshot, int query, int key, int field) {
        View view = view(snapshot);
        Part part = asked(query);
        key(key);
        field(field);
        Doc doc = view.withKey(key);
        List<Set<Integer>> marks = new ArrayList<>();
        TreeSet<Integer> all = new TreeSet<>();
        if (doc != null && part.gives(doc, ranking(view)) != null) {
            List<Leaf> leaves = new ArrayList<>();
            part.collect(leaves);
            for (Leaf leaf : leaves) {
                if (leaf.field == field && !leaf.marked(doc).isEmpty()) {
                    marks.add(leaf.marked(doc));
                    all.addAll(leaf.marked(doc));
                }
            }
        }
        List<Integer> best = null;
        List<Integer> places = new ArrayList<>(all);
        for (int chosen = 0; chosen < 1 << places.size(); chosen++) {
            if (Integer.bitCount(chosen) > 4) {
                continue;
            }
            List<Integer> starts = new ArrayList<>();
            for (int i = 0; i < places.size(); i++) {
                if ((chosen >> i & 1) != 0) {
                    starts.add(places.get(i));
                }
            }
            if (marks.stream().allMatch(m -> m.stream().anyMatch(p -> starts.stream().anyMatch(
                    s -> p >= s && p < s + 6))) && (best == null || isBetter(starts, best))) {
                best = starts;
            }
        }
        return best;
    }

    private static boolean isBetter(List<Integer> one, List<Integer> other) {
        if (one.size() != other.size()) {
            return one.size() < other.size();
        }
        for (int i = 0; i < one.size(); i++) {
            if (!one.get(i).equals(other.get(i))) {
                return one.get(i) < other.get(i);
            }
        }
        return false;
    }

    int passages(int snapshot, int query, int key, int field) {
        return passageList(snapshot, query, key, field).size();
    }

    int passageAt(int snapshot, int query, int key, int field, int at) {
        List<Integer> starts = passageList(snapshot, query, key, field);
        return at < 0 || at >= starts.size() ? NONE : starts.get(at);
    }
}
