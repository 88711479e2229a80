import java.util.ArrayList;
import java.util.Arrays;

/** A full-text search engine in memory: what each call does is told by the promises of the document. */
public final class SearchMill {
    /** There is none. */
    public static final int NONE = -1;
    /** The machine went DOWN in the call. */
    public static final int DOWN = -2;

    private static final int MOST_SIGNS = 40;
    private static final int MOST_PLACES = 20;
    private static final int MOST_RULES = 10;
    private static final int FIELDS = 2;
    private static final int MOST_KEYS = 100;
    private static final int MOST_CATEGORY = 9;
    private static final int MOST_NUMBER = 999;
    private static final int MOST_BUFFERED = 12;
    private static final int MOST_SEGMENTS = 200;
    private static final int MOST_CRASH = 1000;
    private static final int SOURCES = 3;
    private static final int MOST_SNAPSHOTS = 5;
    private static final int MOST_PARTS = 8;
    private static final int MOST_LEAVES = 24;
    private static final int MOST_TOKENS = 6;
    private static final int MOST_SLOP = 20;
    private static final int MOST_DISTANCE = 20;
    private static final int MOST_EDITS = 2;
    private static final int MOST_QUERIES = 40;
    private static final int MOST_WEIGHT = 9;
    private static final int MOST_HITS = 20;

    private final Language language = new Language();
    private Document draft = new Document();
    private final ArrayList<Document> buffer = new ArrayList<>();
    private View index = new View(NONE);
    /** What a merge copies: its sources, with those live that are to be copied; null without a merge. */
    private View sources = null;
    private int copied = 0;
    private View commit = null;
    private View prepared = null;
    private final ArrayList<View> snapshots = new ArrayList<>();
    private int opened = 0;
    private Query parts = new Query();
    private final ArrayList<Query> queries = new ArrayList<>();
    private final Reader reader = new Reader();
    private final Finder finder = new Finder(reader);
    private int made = 0;
    private int finished = 0;
    private int written = 0;
    /** How many writes are done ahead of the crash that was told; NONE without one. */
    private int crashIn = NONE;
    private boolean isOff = false;

    public SearchMill() {
    }

    // ---- the pad, stop words, synonyms

    public int type(char sign) throws IllegalArgumentException, IllegalStateException {
        if (sign < ' ' || sign > '~') {
            throw new IllegalArgumentException("the sign is out of range");
        }
        if (language.pad.signCount >= MOST_SIGNS) {
            throw new IllegalStateException("the pad is full");
        }
        return language.pad.putSign(sign);
    }

    public int wipe() {
        return language.takePad().signCount;
    }

    public int stop() throws IllegalStateException {
        if (language.readPad() != 1 || language.stopCount >= MOST_RULES || language.isFixed) {
            throw new IllegalStateException("no stop word can be told now");
        }
        return language.putStop();
    }

    public int synonym() throws IllegalStateException {
        if (language.readPad() != 2 || language.pairCount >= MOST_RULES || language.isFixed) {
            throw new IllegalStateException("no synonym can be told now");
        }
        return language.putPair();
    }

    // ---- documents

    public int text(int field) throws IndexOutOfBoundsException {
        checkField(field);
        Text text = language.takePad();
        language.tokenise(text, true);
        draft.putText(field, text);
        return text.count;
    }

    public void columns(int category, int number) throws IllegalArgumentException {
        if (category < 0 || category > MOST_CATEGORY || number < 0 || number > MOST_NUMBER) {
            throw new IllegalArgumentException("the category or the number is out of range");
        }
        draft.category = category;
        draft.number = number;
    }

    public int add(int key) throws IndexOutOfBoundsException, IllegalStateException {
        checkKey(key);
        checkUp();
        if (buffer.size() >= MOST_BUFFERED && bufferPlaceOf(key) == NONE) {
            throw new IllegalStateException("the buffer is full");
        }
        dropKey(key);
        language.isFixed = true;
        draft.key = key;
        // A stop word or a synonym may have been told after the text was.
        language.tokenise(draft.textOf(0), true);
        language.tokenise(draft.textOf(1), true);
        buffer.add(draft);
        draft = new Document();
        return buffer.size();
    }

    public boolean delete(int key) throws IndexOutOfBoundsException, IllegalStateException {
        checkKey(key);
        checkUp();
        return dropKey(key);
    }

    public int flush() throws IllegalStateException {
        checkUp();
        if (made >= MOST_SEGMENTS) {
            throw new IllegalStateException("no more segments can be made");
        }
        if (buffer.isEmpty()) {
            return NONE;
        }
        return flushBuffer();
    }

    // ---- merging

    public int due() throws IllegalStateException {
        checkUp();
        return index.duePlace();
    }

    public int merge() throws IllegalStateException {
        checkUp();
        int place = index.duePlace();
        if (place == NONE || sources != null || made >= MOST_SEGMENTS) {
            throw new IllegalStateException("no merge can be begun now");
        }
        sources = index.copyOf(place, SOURCES);
        copied = 0;
        return sources.liveCount();
    }

    public int step() throws IllegalStateException {
        checkUp();
        View merging = sources;
        if (merging == null) {
            throw new IllegalStateException("no merge is under way");
        }
        if (!doWrite()) {
            return DOWN;
        }
        int wanted = merging.liveCount();
        if (copied < wanted) {
            copied++;
            return wanted - copied;
        }
        endMerge(merging);
        return NONE;
    }

    public int giveUp() throws IllegalStateException {
        checkUp();
        if (sources == null) {
            throw new IllegalStateException("no merge is under way");
        }
        int done = copied;
        sources = null;
        copied = 0;
        return done;
    }

    // ---- commits and crashes

    public int prepare() throws IllegalStateException {
        checkUp();
        if (prepared != null || made >= MOST_SEGMENTS && !buffer.isEmpty()) {
            throw new IllegalStateException("no commit can be prepared now");
        }
        if (!buffer.isEmpty() && flushBuffer() == DOWN) {
            return DOWN;
        }
        int changed = index.changedSince(commit);
        for (int i = 0; i <= changed; i++) {
            if (!doWrite()) {
                return DOWN;
            }
        }
        prepared = index.copyOf(0, index.size());
        return prepared.size();
    }

    public int finish() throws IllegalStateException {
        checkUp();
        View ready = prepared;
        if (ready == null) {
            throw new IllegalStateException("no commit is prepared");
        }
        if (!doWrite()) {
            return DOWN;
        }
        commit = ready;
        prepared = null;
        finished++;
        return finished;
    }

    public void drop() throws IllegalStateException {
        checkUp();
        if (prepared == null) {
            throw new IllegalStateException("no commit is prepared");
        }
        prepared = null;
    }

    public void crashAt(int writes) throws IllegalArgumentException, IllegalStateException {
        if (writes < 0 || writes > MOST_CRASH) {
            throw new IllegalArgumentException("the number of writes is out of range");
        }
        checkUp();
        crashIn = writes;
    }

    public int open() throws IllegalStateException {
        if (!isOff) {
            throw new IllegalStateException("the machine is not DOWN");
        }
        isOff = false;
        crashIn = NONE;
        index = committed();
        return index.size();
    }

    public boolean isDown() {
        return isOff;
    }

    public int files() throws IllegalStateException {
        checkUp();
        return fileCount();
    }

    public int writes() {
        return written;
    }

    // ---- the index

    public int segments() throws IllegalStateException {
        checkUp();
        return index.size();
    }

    public int segmentAt(int place) throws IndexOutOfBoundsException {
        return holdingAt(place).segment.number;
    }

    public int live(int place) throws IndexOutOfBoundsException {
        return holdingAt(place).liveCount();
    }

    public int keyAt(int place, int document) throws IndexOutOfBoundsException {
        Segment segment = holdingAt(place).segment;
        if (document < 0 || document >= segment.size()) {
            throw new IndexOutOfBoundsException("there is no such document");
        }
        return segment.documents.get(document).key;
    }

    // ---- words and postings

    public int words(int place, int field) throws IndexOutOfBoundsException {
        return wordsAt(place, field).size();
    }

    public int shared(int place, int field, int word) throws IndexOutOfBoundsException {
        postingsAt(place, field, word);
        return sharedAt(wordsAt(place, field), word);
    }

    public int wordBytes(int place, int field) throws IndexOutOfBoundsException {
        ArrayList<Postings> words = wordsAt(place, field);
        int sum = 0;
        for (int i = 0; i < words.size(); i++) {
            sum += 2 + Text.lengthOf(words.get(i).word) - sharedAt(words, i);
        }
        return sum;
    }

    public char signAt(int place, int field, int word, int sign) throws IndexOutOfBoundsException {
        return Text.letterAt(postingsAt(place, field, word).word, sign);
    }

    public int bytes(int place, int field, int word) throws IndexOutOfBoundsException {
        return postingsAt(place, field, word).size();
    }

    public int byteAt(int place, int field, int word, int index) throws IndexOutOfBoundsException {
        Postings postings = postingsAt(place, field, word);
        if (index < 0 || index >= postings.size()) {
            throw new IndexOutOfBoundsException("there is no such byte");
        }
        return postings.bytes[index];
    }

    // ---- snapshots

    public int look(boolean isFresh) throws IllegalStateException {
        checkUp();
        if (snapshots.size() >= MOST_SNAPSHOTS) {
            throw new IllegalStateException("too many snapshots are open");
        }
        View snapshot = isFresh ? index.copyOf(0, index.size()) : committed();
        snapshot.number = opened;
        snapshots.add(snapshot);
        opened++;
        return snapshot.number;
    }

    public int shut(int snapshot) throws IndexOutOfBoundsException {
        View view = snapshotOf(snapshot);
        for (int i = snapshots.size() - 1; i >= 0; i--) {
            if (snapshots.get(i) == view) {
                snapshots.remove(i);
            }
        }
        return fileCount();
    }

    public int documents(int snapshot) throws IndexOutOfBoundsException {
        return snapshotOf(snapshot).liveCount();
    }

    // ---- queries

    public int term(int field) throws IndexOutOfBoundsException, IllegalStateException {
        checkField(field);
        checkLeaf(language.readPadTokens() == 1);
        return parts.putLeaf(Node.ofTokens(Node.PHRASE, field, 0, language.takePad()));
    }

    public int phrase(int field, int slop)
            throws IndexOutOfBoundsException, IllegalArgumentException, IllegalStateException {
        checkField(field);
        if (slop < 0 || slop > MOST_SLOP) {
            throw new IllegalArgumentException("the slop is out of range");
        }
        int tokens = language.readPadTokens();
        checkLeaf(tokens >= 1 && tokens <= MOST_TOKENS);
        return parts.putLeaf(Node.ofTokens(Node.PHRASE, field, slop, language.takePad()));
    }

    public int near(int field, int distance, boolean isOrdered)
            throws IndexOutOfBoundsException, IllegalArgumentException, IllegalStateException {
        checkField(field);
        if (distance < 1 || distance > MOST_DISTANCE) {
            throw new IllegalArgumentException("the distance is out of range");
        }
        checkLeaf(language.readPadTokens() == 2);
        Node leaf = Node.ofTokens(Node.NEAR, field, distance, language.takePad());
        leaf.isOrdered = isOrdered;
        return parts.putLeaf(leaf);
    }

    public int prefix(int field) throws IndexOutOfBoundsException, IllegalStateException {
        checkField(field);
        checkLeaf(language.readPad() == 1);
        language.takePad();
        return parts.putLeaf(Node.ofPrefix(field, language.wordAt(0)));
    }

    public int wild(int field) throws IndexOutOfBoundsException, IllegalStateException {
        checkField(field);
        checkLeaf(Node.isPattern(language.pad));
        return parts.putLeaf(Node.ofPattern(field, language.takePad()));
    }

    public int fuzzy(int field, int edits)
            throws IndexOutOfBoundsException, IllegalArgumentException, IllegalStateException {
        checkField(field);
        if (edits < 0 || edits > MOST_EDITS) {
            throw new IllegalArgumentException("the number of edits is out of range");
        }
        checkLeaf(language.readPad() == 1);
        language.takePad();
        return parts.putLeaf(Node.ofEdits(field, edits, language.wordAt(0)));
    }

    public int least(int parts, int least) throws IllegalArgumentException, IllegalStateException {
        if (parts < 2 || parts > MOST_PARTS || least < 1 || least > parts) {
            throw new IllegalArgumentException("the number of parts is out of range");
        }
        checkParts(parts);
        return this.parts.putGroup(Node.ofParts(Node.LEAST, parts, least));
    }

    public int but() throws IllegalStateException {
        checkParts(2);
        parts.setLastAside();
        return parts.putGroup(Node.ofParts(Node.BUT, 2, 1));
    }

    public int query() throws IllegalStateException {
        if (parts.partCount != 1 || queries.size() >= MOST_QUERIES) {
            throw new IllegalStateException("no query can be made now");
        }
        queries.add(parts);
        parts = new Query();
        return queries.size() - 1;
    }

    public int scrap() {
        int count = parts.partCount;
        parts = new Query();
        return count;
    }

    public int weigh(int field, int weight) throws IndexOutOfBoundsException, IllegalArgumentException {
        checkField(field);
        if (weight < 1 || weight > MOST_WEIGHT) {
            throw new IllegalArgumentException("the weight is out of range");
        }
        int before = reader.weights[field];
        reader.weights[field] = weight;
        return before;
    }

    // ---- finding

    public int find(int snapshot, int query, int most) throws IndexOutOfBoundsException, IllegalArgumentException {
        View view = snapshotOf(snapshot);
        Query wanted = queryOf(query);
        if (most < 1 || most > MOST_HITS) {
            throw new IllegalArgumentException("the number of hits is out of range");
        }
        return finder.search(view, wanted, query, most);
    }

    public int hitAt(int place) throws IndexOutOfBoundsException {
        checkHit(place);
        return finder.hitKeys[place];
    }

    public int rankAt(int place) throws IndexOutOfBoundsException {
        checkHit(place);
        return finder.hitRanks[place];
    }

    public int skipped() {
        return finder.skippedBlocks;
    }

    public int cached() {
        return finder.takenMatches;
    }

    // ---- plain questions

    public int rankByScan(int snapshot, int query, int key) throws IndexOutOfBoundsException {
        View view = snapshotOf(snapshot);
        Query wanted = queryOf(query);
        checkKey(key);
        Document document = view.liveDocument(key);
        if (document == null) {
            return NONE;
        }
        reader.scanRarities(wanted, view);
        reader.scanDocument(wanted, document);
        return reader.valueAt(wanted, 0);
    }

    public int matches(int snapshot, int query) throws IndexOutOfBoundsException {
        View view = snapshotOf(snapshot);
        Query wanted = queryOf(query);
        return reader.matched(view, wanted).size();
    }

    public int matchesByScan(int snapshot, int query) throws IndexOutOfBoundsException {
        View view = snapshotOf(snapshot);
        Query wanted = queryOf(query);
        return reader.scannedCount(view, wanted);
    }

    public int facet(int snapshot, int query, int category)
            throws IndexOutOfBoundsException, IllegalArgumentException {
        View view = snapshotOf(snapshot);
        Query wanted = queryOf(query);
        if (category < 0 || category > MOST_CATEGORY) {
            throw new IllegalArgumentException("the category is out of range");
        }
        ArrayList<Document> found = reader.matched(view, wanted);
        int count = 0;
        for (int i = 0; i < found.size(); i++) {
            if (found.get(i).category == category) {
                count++;
            }
        }
        return count;
    }

    public int sortedAt(int snapshot, int query, boolean isDown, int place) throws IndexOutOfBoundsException {
        View view = snapshotOf(snapshot);
        Query wanted = queryOf(query);
        ArrayList<Document> found = reader.matched(view, wanted);
        for (int i = 0; i < found.size(); i++) {
            if (sortedPlace(found, i, isDown) == place) {
                return found.get(i).key;
            }
        }
        throw new IndexOutOfBoundsException("there are not so many");
    }

    // ---- passages

    public int passages(int snapshot, int query, int key, int field) throws IndexOutOfBoundsException {
        View view = snapshotOf(snapshot);
        Query wanted = queryOf(query);
        checkKey(key);
        checkField(field);
        return finder.readPassages(view.liveDocument(key), wanted, field);
    }

    public int passageAt(int snapshot, int query, int key, int field, int index) throws IndexOutOfBoundsException {
        View view = snapshotOf(snapshot);
        Query wanted = queryOf(query);
        checkKey(key);
        checkField(field);
        int count = finder.readPassages(view.liveDocument(key), wanted, field);
        return index < 0 || index >= count ? NONE : finder.starts[index];
    }

    // ---- what the calls ask for first

    private static void checkField(int field) {
        if (field < 0 || field >= FIELDS) {
            throw new IndexOutOfBoundsException("there is no such field");
        }
    }

    private static void checkKey(int key) {
        if (key < 0 || key >= MOST_KEYS) {
            throw new IndexOutOfBoundsException("there is no such key");
        }
    }

    private void checkUp() {
        if (isOff) {
            throw new IllegalStateException("the machine is DOWN");
        }
    }

    private void checkLeaf(boolean isPadRight) {
        if (!isPadRight || parts.partCount >= MOST_PARTS || parts.leaves.size() >= MOST_LEAVES) {
            throw new IllegalStateException("no such leaf can be put now");
        }
    }

    private void checkParts(int wanted) {
        if (parts.partCount < wanted) {
            throw new IllegalStateException("there are fewer parts");
        }
    }

    private void checkHit(int place) {
        if (place < 0 || place >= finder.held) {
            throw new IndexOutOfBoundsException("there are not so many hits");
        }
    }

    private Holding holdingAt(int place) {
        Holding holding = index.at(place);
        if (isOff || holding == null) {
            throw new IndexOutOfBoundsException("there is no such place");
        }
        return holding;
    }

    private ArrayList<Postings> wordsAt(int place, int field) {
        Holding holding = holdingAt(place);
        checkField(field);
        return holding.segment.wordsOf(field);
    }

    private Postings postingsAt(int place, int field, int word) {
        ArrayList<Postings> words = wordsAt(place, field);
        if (word < 0 || word >= words.size()) {
            throw new IndexOutOfBoundsException("there is no such word");
        }
        return words.get(word);
    }

    private View snapshotOf(int number) {
        for (int i = 0; i < snapshots.size(); i++) {
            if (snapshots.get(i).number == number) {
                return snapshots.get(i);
            }
        }
        throw new IndexOutOfBoundsException("there is no such snapshot");
    }

    private Query queryOf(int number) {
        if (number < 0 || number >= queries.size()) {
            throw new IndexOutOfBoundsException("there is no such query");
        }
        return queries.get(number);
    }

    // ---- the machine's own work

    private int bufferPlaceOf(int key) {
        for (int i = 0; i < buffer.size(); i++) {
            if (buffer.get(i).key == key) {
                return i;
            }
        }
        return NONE;
    }

    private boolean dropKey(int key) {
        int place = bufferPlaceOf(key);
        if (place != NONE) {
            buffer.remove(place);
            return true;
        }
        return index.kill(key);
    }

    /** Does the next write, or goes DOWN in place of it; tells whether it was done. */
    private boolean doWrite() {
        if (crashIn == 0) {
            goDown();
            return false;
        }
        if (crashIn > 0) {
            crashIn--;
        }
        written++;
        return true;
    }

    private void goDown() {
        isOff = true;
        crashIn = NONE;
        buffer.clear();
        sources = null;
        copied = 0;
        snapshots.clear();
        finder.forget();
        prepared = null;
        index = new View(NONE);
    }

    private View committed() {
        View last = commit;
        return last == null ? new View(NONE) : last.copyOf(0, last.size());
    }

    private int flushBuffer() {
        int wanted = buffer.size() + 1;
        for (int i = 0; i < wanted; i++) {
            if (!doWrite()) {
                return DOWN;
            }
        }
        Segment segment = newSegment(buffer);
        segment.readTexts(0);
        segment.readTexts(1);
        index.put(index.size(), new Holding(segment));
        buffer.clear();
        return segment.number;
    }

    private Segment newSegment(ArrayList<Document> documents) {
        Segment segment = new Segment(made);
        made++;
        for (int i = 0; i < documents.size(); i++) {
            segment.documents.add(documents.get(i));
        }
        return segment;
    }

    private void endMerge(View merging) {
        ArrayList<Document> documents = new ArrayList<>();
        ArrayList<Document> dead = new ArrayList<>();
        int at = index.takeOut(merging, documents, dead);
        if (!documents.isEmpty()) {
            Segment segment = newSegment(documents);
            segment.readTexts(0);
            segment.readTexts(1);
            Holding merged = new Holding(segment);
            for (int i = 0; i < dead.size(); i++) {
                merged.kill(dead.get(i).key);
            }
            index.put(at, merged);
        }
        sources = null;
        copied = 0;
    }

    private int fileCount() {
        boolean[] isSeen = new boolean[made];
        int count = index.newFiles(isSeen) + (sources != null && copied > 0 ? 1 : 0);
        for (int i = 0; i < snapshots.size(); i++) {
            count += snapshots.get(i).newFiles(isSeen);
        }
        if (commit != null) {
            count += 1 + commit.newFiles(isSeen) + commit.deletionFiles(null);
        }
        if (prepared != null) {
            count += 1 + prepared.newFiles(isSeen) + prepared.deletionFiles(commit);
        }
        return count;
    }

    private static int sharedAt(ArrayList<Postings> words, int word) {
        if (word < 1 || word >= words.size()) {
            return 0;
        }
        return Text.sharedOf(words.get(word - 1).word, words.get(word).word);
    }

    /** At which place a document comes when all are sorted by their numbers. */
    private static int sortedPlace(ArrayList<Document> found, int document, boolean isFalling) {
        if (document < 0 || document >= found.size()) {
            return NONE;
        }
        int own = found.get(document).number;
        int ahead = 0;
        for (int i = 0; i < found.size(); i++) {
            int other = found.get(i).number;
            boolean isAhead = isFalling ? other > own : other < own;
            if (isAhead || other == own && i < document) {
                ahead++;
            }
        }
        return ahead;
    }

    /** The pad, the stop words and the synonyms; makes tokens of signs. */
    private static final class Language {
        Text pad = new Text();
        private final long[] readWords = new long[MOST_PLACES];
        private int readCount = 0;
        private final long[] stops = new long[MOST_RULES];
        int stopCount = 0;
        private final long[] pairFirsts = new long[MOST_RULES];
        private final long[] pairSeconds = new long[MOST_RULES];
        int pairCount = 0;
        /** Whether a document was added at some time: stop words and synonyms stay as they are then. */
        boolean isFixed = false;

        Text takePad() {
            Text taken = pad;
            pad = new Text();
            return taken;
        }

        /** Reads the words of the pad; answers how many it has. */
        int readPad() {
            readWordsOf(pad);
            return readCount;
        }

        /** Reads the tokens of the pad, synonyms left aside; answers how many it has. */
        int readPadTokens() {
            tokenise(pad, false);
            return pad.count;
        }

        /** One of the words that were read last; 0 without it. */
        long wordAt(int place) {
            return place < 0 || place >= readCount || place >= readWords.length ? 0 : readWords[place];
        }

        int putStop() {
            long stem = Text.stemOf(wordAt(0));
            if (!isStop(stem) && stopCount < stops.length) {
                stops[stopCount] = stem;
                stopCount++;
            }
            pad = new Text();
            return stopCount;
        }

        int putPair() {
            if (pairCount < pairFirsts.length && pairCount < pairSeconds.length) {
                pairFirsts[pairCount] = Text.stemOf(wordAt(0));
                pairSeconds[pairCount] = Text.stemOf(wordAt(1));
                pairCount++;
            }
            pad = new Text();
            return pairCount;
        }

        void tokenise(Text text, boolean isWithSynonyms) {
            readWordsOf(text);
            text.count = 0;
            for (int place = 0; place < readCount; place++) {
                long stem = Text.stemOf(wordAt(place));
                if (!isStop(stem)) {
                    text.putToken(stem, place);
                    if (isWithSynonyms) {
                        putSynonyms(text, stem, place);
                    }
                }
            }
        }

        private void putSynonyms(Text text, long stem, int place) {
            for (int i = 0; i < pairCount && i < pairFirsts.length && i < pairSeconds.length; i++) {
                if (pairFirsts[i] == stem && (text.placesOf(pairSeconds[i]) >> place & 1) == 0) {
                    text.putToken(pairSeconds[i], place);
                }
            }
        }

        private boolean isStop(long stem) {
            for (int i = 0; i < stopCount && i < stops.length; i++) {
                if (stops[i] == stem) {
                    return true;
                }
            }
            return false;
        }

        private void readWordsOf(Text text) {
            readCount = 0;
            int length = 0;
            for (int i = 0; i < text.signCount; i++) {
                int digit = Text.digitOf(text.signOf(i));
                if (digit == 0) {
                    length = 0;
                } else {
                    if (length == 0 && readCount < readWords.length) {
                        readWords[readCount] = 0;
                        readCount++;
                    }
                    if (readCount > 0) {
                        readWords[readCount - 1] = Text.withDigit(readWords[readCount - 1], length, digit);
                    }
                    length++;
                }
            }
        }
    }

    /**
     * Signs, and the tokens that were made of them with their places. A token is a number of 12 digits to the
     * base 37, the first sign as the highest one, so that numbers come in the order of the words.
     */
    private static final class Text {
        private static final int LONGEST = 12;
        private static final int BASE = 37;
        private static final long[] POWERS = {
            1L, 37L, 1369L, 50653L, 1874161L, 69343957L, 2565726409L, 94931877133L, 3512479453921L,
            129961739795077L, 4808584372417849L, 177917621779460413L};
        private static final int LETTER = 11;
        private static final int DIGIT = 1;

        private final int[] signs = new int[MOST_SIGNS];
        int signCount = 0;
        private long[] codes = new long[0];
        private int[] places = new int[0];
        int count = 0;

        int putSign(char sign) {
            if (signCount < signs.length) {
                signs[signCount] = sign;
                signCount++;
            }
            return signCount;
        }

        int signOf(int at) {
            return at < 0 || at >= signCount || at >= signs.length ? ' ' : signs[at];
        }

        void putToken(long code, int place) {
            if (count >= codes.length || count >= places.length) {
                codes = Arrays.copyOf(codes, count * 2 + 4);
                places = Arrays.copyOf(places, count * 2 + 4);
            }
            codes[count] = code;
            places[count] = place;
            count++;
        }

        long codeAt(int token) {
            return token < 0 || token >= count || token >= codes.length ? 0 : codes[token];
        }

        int placeAt(int token) {
            return token < 0 || token >= count || token >= places.length ? 0 : places[token];
        }

        /** The places of a token, each as the bit with its number. */
        int placesOf(long code) {
            int mask = 0;
            for (int i = 0; i < count && i < codes.length && i < places.length; i++) {
                if (codes[i] == code) {
                    mask |= 1 << places[i];
                }
            }
            return mask;
        }

        /** Whether no token ahead of this one is the same. */
        boolean isFirst(int token) {
            int behind = placesOf(codeAt(token)) >> placeAt(token);
            return behind << placeAt(token) == placesOf(codeAt(token));
        }

        /** 1 to 36 for a word sign, capital letters as small ones; 0 for another sign. */
        static int digitOf(int sign) {
            if (sign >= '0' && sign <= '9') {
                return sign - '0' + DIGIT;
            }
            if (sign >= 'a' && sign <= 'z') {
                return sign - 'a' + LETTER;
            }
            if (sign >= 'A' && sign <= 'Z') {
                return sign - 'A' + LETTER;
            }
            return 0;
        }

        static int digitAt(long code, int at) {
            if (at < 0 || at >= LONGEST) {
                return 0;
            }
            return (int) (code / POWERS[LONGEST - 1 - at] % BASE);
        }

        static char letterAt(long code, int at) {
            int digit = digitAt(code, at);
            if (digit == 0) {
                return ' ';
            }
            return (char) (digit < LETTER ? '0' + digit - DIGIT : 'a' + digit - LETTER);
        }

        /** The word with one sign more; the same word if that is behind those that count. */
        static long withDigit(long code, int at, int digit) {
            return at < 0 || at >= LONGEST ? code : code + digit * POWERS[LONGEST - 1 - at];
        }

        static int lengthOf(long code) {
            int length = 0;
            while (length < LONGEST && digitAt(code, length) != 0) {
                length++;
            }
            return length;
        }

        static int sharedOf(long one, long other) {
            int count = 0;
            while (count < LONGEST && digitAt(one, count) != 0 && digitAt(one, count) == digitAt(other, count)) {
                count++;
            }
            return count;
        }

        static long stemOf(long word) {
            int length = lengthOf(word);
            if (length >= 6 && isEnding(word, length, 'i', 'n', 'g')) {
                return cutTo(word, length - 3);
            }
            if (length >= 5 && isEnding(word, length, ' ', 'e', 'd')) {
                return cutTo(word, length - 2);
            }
            if (length >= 4 && isEnding(word, length, ' ', ' ', 's') && !isEnding(word, length, ' ', 's', 's')) {
                return cutTo(word, length - 1);
            }
            return word;
        }

        /** Whether the last signs are these; a blank stands for any sign. */
        private static boolean isEnding(long word, int length, char third, char second, char last) {
            return (third == ' ' || digitAt(word, length - 3) == digitOf(third))
                && (second == ' ' || digitAt(word, length - 2) == digitOf(second))
                && digitAt(word, length - 1) == digitOf(last);
        }

        private static long cutTo(long code, int length) {
            if (length < 1 || length > LONGEST) {
                return code;
            }
            return code - code % POWERS[LONGEST - length];
        }
    }

    private static final class Document {
        int key = NONE;
        int category = 0;
        int number = 0;
        private Text firstText = new Text();
        private Text secondText = new Text();

        Text textOf(int field) {
            return field == 0 ? firstText : secondText;
        }

        void putText(int field, Text text) {
            if (field == 0) {
                firstText = text;
            } else {
                secondText = text;
            }
        }
    }

    /** A word of a segment, and its postings, packed. */
    private static final class Postings {
        private static final int GROUP = 4;
        private static final int WIDTH_BITS = 4;
        private static final int MOST_WIDTH = 15;

        final long word;
        byte[] bytes = new byte[4];
        private int bitCount = 0;
        private int documentCount = 0;
        private int lastDocument = NONE;
        private final int[] waiting = new int[GROUP];
        private int waitingCount = 0;
        private int readBit = 0;
        private int readNumbers = 0;
        private int readWidth = 0;

        Postings(long word) {
            this.word = word;
        }

        int size() {
            return Math.min(bitCount + 7 >> 3, bytes.length);
        }

        void putDocument(int document, int mask) {
            putNumber(document - lastDocument - 1);
            putNumber(Integer.bitCount(mask) - 1);
            int last = NONE;
            for (int place = 0; place < MOST_PLACES; place++) {
                if ((mask >> place & 1) != 0) {
                    putNumber(place - last - 1);
                    last = place;
                }
            }
            lastDocument = document;
            documentCount++;
        }

        private void putNumber(int number) {
            if (waitingCount < waiting.length) {
                waiting[waitingCount] = number;
                waitingCount++;
            }
            if (waitingCount == GROUP) {
                close();
            }
        }

        /** Packs the numbers that wait, of which there may be fewer than a group has. */
        void close() {
            if (waitingCount == 0) {
                return;
            }
            int all = 0;
            for (int i = 0; i < waitingCount && i < waiting.length; i++) {
                all |= waiting[i];
            }
            int width = 0;
            while (width < MOST_WIDTH && all >> width != 0) {
                width++;
            }
            putBits(width, WIDTH_BITS);
            for (int i = 0; i < waitingCount && i < waiting.length; i++) {
                putBits(waiting[i], width);
            }
            waitingCount = 0;
        }

        private void putBits(int number, int width) {
            for (int bit = width - 1; bit >= 0; bit--) {
                int at = bitCount >> 3;
                if (at >= bytes.length) {
                    bytes = Arrays.copyOf(bytes, at * 2 + 4);
                }
                if ((number >> bit & 1) != 0) {
                    bytes[at] |= (byte) (128 >> (bitCount & 7));
                }
                bitCount++;
            }
        }

        /** Puts the places of each document into its element of a row, beside those that are there. */
        void spread(int[] row) {
            readBit = 0;
            readNumbers = 0;
            int document = NONE;
            for (int i = 0; i < documentCount; i++) {
                document += nextNumber() + 1;
                int count = nextNumber() + 1;
                int place = NONE;
                int mask = 0;
                for (int j = 0; j < count; j++) {
                    place += nextNumber() + 1;
                    mask |= 1 << place;
                }
                if (document >= 0 && document < row.length) {
                    row[document] |= mask;
                }
            }
        }

        private int nextNumber() {
            if (readNumbers % GROUP == 0) {
                readWidth = nextBits(WIDTH_BITS);
            }
            readNumbers++;
            return nextBits(readWidth);
        }

        private int nextBits(int width) {
            int number = 0;
            for (int i = 0; i < width; i++) {
                int at = readBit >> 3;
                int bit = at < bytes.length ? bytes[at] >> 7 - (readBit & 7) & 1 : 0;
                number = number << 1 | bit;
                readBit++;
            }
            return number;
        }
    }

    /** Documents that never change, with the words that they have. */
    private static final class Segment {
        final int number;
        final ArrayList<Document> documents = new ArrayList<>();
        private final ArrayList<Postings> firstWords = new ArrayList<>();
        private final ArrayList<Postings> secondWords = new ArrayList<>();

        Segment(int number) {
            this.number = number;
        }

        int size() {
            return documents.size();
        }

        ArrayList<Postings> wordsOf(int field) {
            return field == 0 ? firstWords : secondWords;
        }

        int tier() {
            int tier = 0;
            for (int left = size(); left >= 3; left /= 3) {
                tier++;
            }
            return tier;
        }

        /** Makes the words of a field from the texts. */
        void readTexts(int field) {
            ArrayList<Postings> words = wordsOf(field);
            for (int i = 0; i < documents.size(); i++) {
                Text text = documents.get(i).textOf(field);
                for (int token = 0; token < text.count; token++) {
                    if (text.isFirst(token)) {
                        long code = text.codeAt(token);
                        ownPostings(words, code).putDocument(i, text.placesOf(code));
                    }
                }
            }
            for (int i = 0; i < words.size(); i++) {
                words.get(i).close();
            }
        }

        /** The postings of a word; null if the segment has not the word. */
        Postings postingsOf(int field, long code) {
            ArrayList<Postings> words = wordsOf(field);
            int at = placeOf(words, code);
            return at < words.size() && words.get(at).word == code ? words.get(at) : null;
        }

        private static Postings ownPostings(ArrayList<Postings> words, long code) {
            int at = placeOf(words, code);
            if (at < words.size() && words.get(at).word == code) {
                return words.get(at);
            }
            Postings made = new Postings(code);
            words.add(at, made);
            return made;
        }

        /** How many words come ahead of this one. */
        private static int placeOf(ArrayList<Postings> words, long code) {
            int low = 0;
            int high = words.size();
            while (low < high) {
                int middle = low + high >> 1;
                if (words.get(middle).word < code) {
                    low = middle + 1;
                } else {
                    high = middle;
                }
            }
            return low;
        }
    }

    /** A segment, and which of its documents are live. */
    private static final class Holding {
        final Segment segment;
        private final boolean[] isDead;

        Holding(Segment segment) {
            this.segment = segment;
            this.isDead = new boolean[segment.size()];
        }

        Holding copy() {
            Holding copy = new Holding(segment);
            for (int i = 0; i < isDead.length && i < copy.isDead.length; i++) {
                copy.isDead[i] = isDead[i];
            }
            return copy;
        }

        boolean isLive(int document) {
            return document >= 0 && document < isDead.length && !isDead[document];
        }

        int liveCount() {
            int count = 0;
            for (int i = 0; i < isDead.length; i++) {
                if (!isDead[i]) {
                    count++;
                }
            }
            return count;
        }

        /** How many live documents have something in their elements of a row. */
        int liveIn(int[] row) {
            int count = 0;
            for (int i = 0; i < row.length; i++) {
                if (row[i] != 0 && isLive(i)) {
                    count++;
                }
            }
            return count;
        }

        boolean hasDead() {
            return liveCount() < isDead.length;
        }

        boolean isAlike(Holding other) {
            for (int i = 0; i < isDead.length; i++) {
                if (isLive(i) != other.isLive(i)) {
                    return false;
                }
            }
            return true;
        }

        /** Where the live document with a key is; NONE without one. */
        int liveAt(int key) {
            for (int i = 0; i < isDead.length && i < segment.size(); i++) {
                if (!isDead[i] && segment.documents.get(i).key == key) {
                    return i;
                }
            }
            return NONE;
        }

        /** Deletes the document with a key; tells whether there was a live one. */
        boolean kill(int key) {
            int at = liveAt(key);
            if (at == NONE || at >= isDead.length) {
                return false;
            }
            isDead[at] = true;
            return true;
        }

        /** Lists the documents that are live here, and those of them that are not live any more. */
        void gather(Holding now, ArrayList<Document> all, ArrayList<Document> dead) {
            for (int i = 0; i < segment.size(); i++) {
                if (isLive(i)) {
                    all.add(segment.documents.get(i));
                    if (!now.isLive(i)) {
                        dead.add(segment.documents.get(i));
                    }
                }
            }
        }
    }

    /** A row of segments with what is live in them: the index, a commit, a snapshot, the sources of a merge. */
    private static final class View {
        int number;
        private final ArrayList<Holding> holdings = new ArrayList<>();

        View(int number) {
            this.number = number;
        }

        int size() {
            return holdings.size();
        }

        Holding at(int place) {
            return place < 0 || place >= holdings.size() ? null : holdings.get(place);
        }

        void put(int place, Holding holding) {
            if (place >= 0 && place <= holdings.size()) {
                holdings.add(place, holding);
            }
        }

        /** Takes the sources of a merge out, lists what is copied of them, and answers where they were. */
        int takeOut(View sources, ArrayList<Document> all, ArrayList<Document> dead) {
            int first = holdings.size();
            for (int i = 0; i < sources.holdings.size(); i++) {
                Holding source = sources.holdings.get(i);
                int at = placeOf(source.segment);
                if (at != NONE) {
                    source.gather(holdings.get(at), all, dead);
                    holdings.remove(at);
                    first = Math.min(first, at);
                }
            }
            return first;
        }

        View copyOf(int from, int count) {
            View copy = new View(NONE);
            for (int i = Math.max(from, 0); i < from + count && i < holdings.size(); i++) {
                copy.holdings.add(holdings.get(i).copy());
            }
            return copy;
        }

        int placeOf(Segment segment) {
            for (int i = 0; i < holdings.size(); i++) {
                if (holdings.get(i).segment == segment) {
                    return i;
                }
            }
            return NONE;
        }

        Holding holdingOf(Segment segment) {
            return at(placeOf(segment));
        }

        int liveCount() {
            int count = 0;
            for (int i = 0; i < holdings.size(); i++) {
                count += holdings.get(i).liveCount();
            }
            return count;
        }

        Document liveDocument(int key) {
            for (int i = 0; i < holdings.size(); i++) {
                int at = holdings.get(i).liveAt(key);
                if (at != NONE) {
                    return holdings.get(i).segment.documents.get(at);
                }
            }
            return null;
        }

        boolean kill(int key) {
            for (int i = 0; i < holdings.size(); i++) {
                if (holdings.get(i).kill(key)) {
                    return true;
                }
            }
            return false;
        }

        int duePlace() {
            for (int i = 0; i + SOURCES <= holdings.size(); i++) {
                int tier = holdings.get(i).segment.tier();
                if (holdings.get(i + 1).segment.tier() == tier && holdings.get(i + 2).segment.tier() == tier) {
                    return i;
                }
            }
            return NONE;
        }

        /** How many segments have other live documents than a commit, or null, tells of them. */
        int changedSince(View last) {
            int count = 0;
            for (int i = 0; i < holdings.size(); i++) {
                Holding now = holdings.get(i);
                Holding then = last == null ? null : last.holdingOf(now.segment);
                if (then == null ? now.hasDead() : !now.isAlike(then)) {
                    count++;
                }
            }
            return count;
        }

        /** How many segments were not seen yet; they are then. */
        int newFiles(boolean[] isSeen) {
            int count = 0;
            for (int i = 0; i < holdings.size(); i++) {
                int segment = holdings.get(i).segment.number;
                if (segment >= 0 && segment < isSeen.length && !isSeen[segment]) {
                    isSeen[segment] = true;
                    count++;
                }
            }
            return count;
        }

        /** How many segments have deletions here, other ones than in a view that counts already, or null. */
        int deletionFiles(View counted) {
            int count = 0;
            for (int i = 0; i < holdings.size(); i++) {
                Holding holding = holdings.get(i);
                Holding other = counted == null ? null : counted.holdingOf(holding.segment);
                if (holding.hasDead() && (other == null || !holding.isAlike(other))) {
                    count++;
                }
            }
            return count;
        }
    }

    /** A leaf of a query, or a group of the parts ahead of it. */
    private static final class Node {
        /** A TERM is a PHRASE of one token. */
        static final int PHRASE = 0;
        static final int NEAR = 1;
        /** A PREFIX is a WILD that ends with any signs. */
        static final int WILD = 2;
        static final int FUZZY = 3;
        static final int LEAST = 4;
        static final int BUT = 5;
        private static final int ANY_SIGN = 37;
        private static final int ANY_SIGNS = 38;
        private static final int MOST_PATTERN = 12;

        final int kind;
        final int field;
        /** The slop, the distance or the edits; of a group how many of its parts have to match. */
        final int limit;
        boolean isOrdered = false;
        int partCount = 0;
        /** Whether it is in a second part of a BUT. */
        boolean isAside = false;
        private long[] tokens = new long[0];
        /** How far each token is behind the one ahead of it. */
        private int[] gaps = new int[0];
        private int[] pattern = new int[0];
        private long word = 0;
        private int[] costs = new int[0];

        private Node(int kind, int field, int limit) {
            this.kind = kind;
            this.field = field;
            this.limit = limit;
        }

        static Node ofTokens(int kind, int field, int limit, Text text) {
            Node leaf = new Node(kind, field, limit);
            int count = Math.min(Math.max(text.count, 0), MOST_TOKENS);
            leaf.tokens = new long[count];
            leaf.gaps = new int[count];
            for (int i = 0; i < count; i++) {
                leaf.tokens[i] = text.codeAt(i);
                leaf.gaps[i] = i == 0 ? 0 : text.placeAt(i) - text.placeAt(i - 1);
            }
            return leaf;
        }

        static Node ofPrefix(int field, long word) {
            Node leaf = new Node(WILD, field, 0);
            int length = Text.lengthOf(word);
            leaf.pattern = new int[length + 1];
            for (int i = 0; i < length; i++) {
                leaf.pattern[i] = Text.digitAt(word, i);
            }
            leaf.pattern[length] = ANY_SIGNS;
            return leaf;
        }

        static Node ofPattern(int field, Text text) {
            Node leaf = new Node(WILD, field, 0);
            int length = Math.min(Math.max(text.signCount, 0), MOST_PATTERN);
            leaf.pattern = new int[length];
            for (int i = 0; i < length; i++) {
                leaf.pattern[i] = patternOf(text.signOf(i));
            }
            return leaf;
        }

        static Node ofEdits(int field, int edits, long word) {
            Node leaf = new Node(FUZZY, field, edits);
            leaf.word = word;
            leaf.costs = new int[Text.lengthOf(word) + 1];
            return leaf;
        }

        static Node ofParts(int kind, int count, int least) {
            Node group = new Node(kind, 0, least);
            group.partCount = count;
            return group;
        }

        static boolean isPattern(Text text) {
            if (text.signCount < 1 || text.signCount > MOST_PATTERN) {
                return false;
            }
            for (int i = 0; i < text.signCount; i++) {
                if (patternOf(text.signOf(i)) == 0) {
                    return false;
                }
            }
            return true;
        }

        private static int patternOf(int sign) {
            if (sign == '?') {
                return ANY_SIGN;
            }
            return sign == '*' ? ANY_SIGNS : Text.digitOf(sign);
        }

        boolean isLeaf() {
            return kind < LEAST;
        }

        /** Whether it counts places: a TERM, a PHRASE or a NEAR. */
        boolean isCounted() {
            return kind < WILD;
        }

        int tokenCount() {
            return tokens.length;
        }

        long tokenAt(int at) {
            return at < 0 || at >= tokens.length ? 0 : tokens[at];
        }

        /** The places of the first token that count, from the places of all tokens in a document. */
        int countedPlaces(int[] places) {
            if (places.length < tokens.length || tokens.length == 0 || places.length == 0) {
                return 0;
            }
            int counted = 0;
            for (int place = 0; place < MOST_PLACES; place++) {
                if ((places[0] >> place & 1) != 0 && isCountedAt(places, place)) {
                    counted |= 1 << place;
                }
            }
            return counted;
        }

        private boolean isCountedAt(int[] places, int place) {
            if (kind == NEAR) {
                return places.length > 1 && hasNeighbour(places[1], place);
            }
            // The earliest place for each token leaves the last one the least behind the first.
            int last = place;
            int farthest = place + limit;
            for (int i = 1; i < tokens.length && i < gaps.length && i < places.length; i++) {
                last = placeFrom(places[i], last + gaps[i]);
                if (last == NONE) {
                    return false;
                }
                farthest += gaps[i];
            }
            return last <= farthest;
        }

        private boolean hasNeighbour(int places, int place) {
            for (int i = 1; i <= limit; i++) {
                if (place + i < MOST_PLACES && (places >> place + i & 1) != 0) {
                    return true;
                }
                if (!isOrdered && place - i >= 0 && (places >> place - i & 1) != 0) {
                    return true;
                }
            }
            return false;
        }

        private static int placeFrom(int places, int from) {
            for (int place = Math.max(from, 0); place < MOST_PLACES; place++) {
                if ((places >> place & 1) != 0) {
                    return place;
                }
            }
            return NONE;
        }

        /** Whether a token is as a PREFIX, WILD or FUZZY tells. */
        boolean isTold(long token) {
            int length = Text.lengthOf(token);
            return kind == FUZZY ? isEdited(token, length) : isLikePattern(token, length);
        }

        private boolean isLikePattern(long token, int length) {
            // A bit tells that so many elements of the pattern can stand for the signs up to here.
            int reached = withEmpty(1);
            for (int i = 0; i < length; i++) {
                int digit = Text.digitAt(token, i);
                int next = 0;
                for (int j = 0; j < pattern.length; j++) {
                    if ((reached >> j & 1) != 0) {
                        if (pattern[j] == ANY_SIGNS) {
                            next |= 1 << j;
                        } else if (pattern[j] == ANY_SIGN || pattern[j] == digit) {
                            next |= 2 << j;
                        }
                    }
                }
                reached = withEmpty(next);
            }
            return (reached >> pattern.length & 1) != 0;
        }

        /** What is reached when each "*" may stand for no signs, too. */
        private int withEmpty(int reached) {
            int all = reached;
            for (int j = 0; j < pattern.length; j++) {
                if (pattern[j] == ANY_SIGNS && (all >> j & 1) != 0) {
                    all |= 2 << j;
                }
            }
            return all;
        }

        private boolean isEdited(long token, int length) {
            int last = costs.length - 1;
            if (last < 0 || Math.abs(length - last) > limit) {
                return false;
            }
            for (int j = 0; j <= last; j++) {
                costs[j] = j;
            }
            for (int i = 1; i <= length; i++) {
                int corner = costs[0];
                costs[0] = i;
                for (int j = 1; j <= last; j++) {
                    boolean isSame = Text.digitAt(token, i - 1) == Text.digitAt(word, j - 1);
                    int cost = Math.min(corner + (isSame ? 0 : 1), Math.min(costs[j], costs[j - 1]) + 1);
                    corner = costs[j];
                    costs[j] = cost;
                }
            }
            return costs[last] <= limit;
        }
    }

    /** Parts, each a leaf or behind those that it joins; with one part it can be asked. */
    private static final class Query {
        private final ArrayList<Node> nodes = new ArrayList<>();
        final ArrayList<Node> leaves = new ArrayList<>();
        /** The nodes with which the parts begin. */
        private final int[] starts = new int[MOST_PARTS];
        int partCount = 0;
        private final int[] values = new int[MOST_PARTS];

        int putLeaf(Node leaf) {
            if (partCount < starts.length) {
                starts[partCount] = nodes.size();
                partCount++;
                nodes.add(leaf);
                leaves.add(leaf);
            }
            return partCount;
        }

        int putGroup(Node group) {
            if (group.partCount <= partCount) {
                partCount -= group.partCount - 1;
                nodes.add(group);
            }
            return partCount;
        }

        /** Sets all leaves of the last part aside. */
        void setLastAside() {
            if (partCount < 1 || partCount > starts.length) {
                return;
            }
            for (int i = Math.max(starts[partCount - 1], 0); i < nodes.size(); i++) {
                nodes.get(i).isAside = true;
            }
        }

        /** What the query gives, from what its leaves give; NONE if it does not match. */
        int valueOf(int[] gives) {
            int height = 0;
            int leaf = 0;
            for (int i = 0; i < nodes.size(); i++) {
                Node node = nodes.get(i);
                if (node.isLeaf()) {
                    if (height < values.length) {
                        values[height] = leaf < gives.length ? gives[leaf] : NONE;
                        height++;
                    }
                    leaf++;
                } else {
                    height = Math.max(height - node.partCount, 0);
                    if (height < values.length) {
                        values[height] = joined(node, height);
                        height++;
                    }
                }
            }
            return height == 1 ? values[0] : NONE;
        }

        private int joined(Node group, int from) {
            int sum = 0;
            int count = 0;
            for (int i = from; i < from + group.partCount && i < values.length; i++) {
                if (values[i] != NONE) {
                    sum += values[i];
                    count++;
                }
            }
            if (group.kind == Node.BUT) {
                return count == 1 && from >= 0 && from < values.length ? values[from] : NONE;
            }
            return count >= group.limit ? sum : NONE;
        }
    }

    /** Reads where leaves match: in a whole segment by words and postings, or in one document by its texts. */
    private static final class Reader {
        private static final int PLAIN_GIVEN = 32;
        private static final int FULL_STRENGTH = 64;

        final int[] weights = {3, 1};
        /** For each leaf and document the places that count; all 0 if it does not match. */
        private final int[][] marks = new int[MOST_LEAVES][MOST_KEYS];
        /** For each leaf and document the places of its first token. */
        private final int[][] firsts = new int[MOST_LEAVES][MOST_KEYS];
        private final int[][] rows = new int[MOST_TOKENS][MOST_KEYS];
        private final int[] places = new int[MOST_TOKENS];
        private final int[] rarities = new int[MOST_LEAVES];
        private final int[] gives = new int[MOST_LEAVES];

        // ---- by words and postings

        void readRarities(Query query, View view) {
            int all = view.liveCount();
            for (int i = 0; i < query.leaves.size() && i < rarities.length; i++) {
                Node leaf = query.leaves.get(i);
                rarities[i] = 0;
                for (int t = 0; t < leaf.tokenCount(); t++) {
                    rarities[i] += rarityOf(all, readCount(view, leaf.field, leaf.tokenAt(t)));
                }
            }
        }

        private int readCount(View view, int field, long token) {
            int count = 0;
            for (int i = 0; i < view.size(); i++) {
                Holding holding = view.at(i);
                Postings postings = holding == null ? null : holding.segment.postingsOf(field, token);
                if (postings != null) {
                    Arrays.fill(rows[0], 0);
                    postings.spread(rows[0]);
                    count += holding.liveIn(rows[0]);
                }
            }
            return count;
        }

        void readSegment(Query query, Segment segment) {
            for (int i = 0; i < query.leaves.size() && i < MOST_LEAVES; i++) {
                Node leaf = query.leaves.get(i);
                if (leaf.isCounted()) {
                    readCounted(leaf, segment, marks[i], firsts[i]);
                } else {
                    readTold(leaf, segment, marks[i]);
                    System.arraycopy(marks[i], 0, firsts[i], 0, MOST_KEYS);
                }
            }
        }

        private void readCounted(Node leaf, Segment segment, int[] counted, int[] first) {
            for (int t = 0; t < leaf.tokenCount() && t < rows.length; t++) {
                Arrays.fill(rows[t], 0);
                Postings postings = segment.postingsOf(leaf.field, leaf.tokenAt(t));
                if (postings != null) {
                    postings.spread(rows[t]);
                }
            }
            for (int i = 0; i < segment.size() && i < MOST_KEYS; i++) {
                for (int t = 0; t < leaf.tokenCount() && t < rows.length; t++) {
                    places[t] = rows[t][i];
                }
                first[i] = places[0];
                counted[i] = leaf.countedPlaces(places);
            }
        }

        private static void readTold(Node leaf, Segment segment, int[] told) {
            Arrays.fill(told, 0);
            ArrayList<Postings> words = segment.wordsOf(leaf.field);
            for (int i = 0; i < words.size(); i++) {
                if (leaf.isTold(words.get(i).word)) {
                    words.get(i).spread(told);
                }
            }
        }

        /** The live documents that match, in their order. */
        ArrayList<Document> matched(View view, Query query) {
            ArrayList<Document> found = new ArrayList<>();
            for (int i = 0; i < view.size(); i++) {
                Holding holding = view.at(i);
                if (holding != null) {
                    readSegment(query, holding.segment);
                    for (int j = 0; j < holding.segment.size(); j++) {
                        if (holding.isLive(j) && valueAt(query, j) != NONE) {
                            found.add(holding.segment.documents.get(j));
                        }
                    }
                }
            }
            return found;
        }

        // ---- by texts

        void scanRarities(Query query, View view) {
            int all = view.liveCount();
            for (int i = 0; i < query.leaves.size() && i < rarities.length; i++) {
                Node leaf = query.leaves.get(i);
                rarities[i] = 0;
                for (int t = 0; t < leaf.tokenCount(); t++) {
                    rarities[i] += rarityOf(all, scanCount(view, leaf.field, leaf.tokenAt(t)));
                }
            }
        }

        private static int scanCount(View view, int field, long token) {
            int count = 0;
            for (int i = 0; i < view.size(); i++) {
                Holding holding = view.at(i);
                for (int j = 0; holding != null && j < holding.segment.size(); j++) {
                    if (holding.isLive(j) && holding.segment.documents.get(j).textOf(field).placesOf(token) != 0) {
                        count++;
                    }
                }
            }
            return count;
        }

        /** Reads one document, as if it were the document 0 of a segment. */
        void scanDocument(Query query, Document document) {
            for (int i = 0; i < query.leaves.size() && i < MOST_LEAVES; i++) {
                Node leaf = query.leaves.get(i);
                Text text = document.textOf(leaf.field);
                marks[i][0] = leaf.isCounted() ? scanCounted(leaf, text) : scanTold(leaf, text);
            }
        }

        private int scanCounted(Node leaf, Text text) {
            for (int t = 0; t < leaf.tokenCount() && t < places.length; t++) {
                places[t] = text.placesOf(leaf.tokenAt(t));
            }
            return leaf.countedPlaces(places);
        }

        private static int scanTold(Node leaf, Text text) {
            int mask = 0;
            for (int i = 0; i < text.count; i++) {
                if (leaf.isTold(text.codeAt(i))) {
                    mask |= 1 << text.placeAt(i);
                }
            }
            return mask;
        }

        int scannedCount(View view, Query query) {
            int count = 0;
            for (int i = 0; i < view.size(); i++) {
                Holding holding = view.at(i);
                for (int j = 0; holding != null && j < holding.segment.size(); j++) {
                    if (holding.isLive(j)) {
                        scanDocument(query, holding.segment.documents.get(j));
                        count += valueAt(query, 0) == NONE ? 0 : 1;
                    }
                }
            }
            return count;
        }

        // ---- what was read

        int markAt(int leaf, int document) {
            return leaf < 0 || leaf >= MOST_LEAVES || document < 0 || document >= MOST_KEYS ? 0 : marks[leaf][document];
        }

        /** What the query gives for a document that was read; NONE if it does not match. */
        int valueAt(Query query, int document) {
            for (int i = 0; i < query.leaves.size() && i < gives.length; i++) {
                int mark = markAt(i, document);
                gives[i] = mark == 0 ? NONE : giveOf(query.leaves.get(i), i, Integer.bitCount(mark));
            }
            return query.valueOf(gives);
        }

        /** The bound of the documents from one up to another one, without that. */
        int boundOf(Query query, int from, int to) {
            int sum = 0;
            for (int i = 0; i < query.leaves.size() && i < MOST_LEAVES; i++) {
                int most = 0;
                for (int j = Math.max(from, 0); j < to && j < MOST_KEYS; j++) {
                    most = Math.max(most, Integer.bitCount(firsts[i][j]));
                }
                if (most > 0 && !query.leaves.get(i).isAside) {
                    sum += giveOf(query.leaves.get(i), i, most);
                }
            }
            return sum;
        }

        private int giveOf(Node leaf, int number, int count) {
            int weight = leaf.field == 0 ? weights[0] : weights[1];
            if (!leaf.isCounted() || count < 1 || number < 0 || number >= rarities.length) {
                return weight * PLAIN_GIVEN;
            }
            return weight * (FULL_STRENGTH * count / (count + 1)) * rarities[number];
        }

        private static int rarityOf(int all, int having) {
            int rarity = 1;
            for (int left = (all + 1) / (Math.max(having, 0) + 1); left > 1; left /= 2) {
                rarity++;
            }
            return rarity;
        }
    }

    /** Finds the best hits, with a cache of what matches, and passages; keeps what was found last. */
    private static final class Finder {
        private static final int MOST_CACHED = 8;
        private static final int BLOCK = 4;
        private static final int MOST_PASSAGES = 4;
        /** The places of a passage from 0 on, as bits. */
        private static final int PASSAGE = 63;
        private static final int EVERYWHERE = -1;

        private final Reader reader;
        int held = 0;
        final int[] hitKeys = new int[MOST_HITS];
        final int[] hitRanks = new int[MOST_HITS];
        int skippedBlocks = 0;
        int takenMatches = 0;
        private int cacheSize = 0;
        private int cacheUses = 0;
        private final int[] cacheQueries = new int[MOST_CACHED];
        private final int[] cacheSegments = new int[MOST_CACHED];
        /** When each entry was put or taken last. */
        private final int[] cacheTimes = new int[MOST_CACHED];
        private final int[][] cacheMatches = new int[MOST_CACHED][MOST_KEYS];
        final int[] starts = new int[MOST_PASSAGES];
        /** The marked places of each leaf; of one that is not marked all places, so that it asks for none. */
        private final int[] spots = new int[MOST_LEAVES];

        Finder(Reader reader) {
            this.reader = reader;
        }

        void forget() {
            held = 0;
            skippedBlocks = 0;
            takenMatches = 0;
            cacheSize = 0;
        }

        // ---- hits

        int search(View view, Query query, int queryNumber, int most) {
            held = 0;
            skippedBlocks = 0;
            takenMatches = 0;
            reader.readRarities(query, view);
            for (int i = 0; i < view.size(); i++) {
                Holding holding = view.at(i);
                if (holding != null) {
                    reader.readSegment(query, holding.segment);
                    int entry = entryOf(query, queryNumber, holding.segment);
                    searchBlocks(query, holding, cacheMatches[entry], most);
                }
            }
            return held;
        }

        private void searchBlocks(Query query, Holding holding, int[] matches, int most) {
            int size = Math.min(holding.segment.size(), matches.length);
            for (int from = 0; from < size; from += BLOCK) {
                int to = Math.min(from + BLOCK, size);
                if (held > 0 && held >= most && reader.boundOf(query, from, to) <= hitRanks[held - 1]) {
                    skippedBlocks++;
                } else {
                    for (int i = from; i < to; i++) {
                        if (holding.isLive(i) && matches[i] != 0) {
                            hold(holding.segment.documents.get(i).key, reader.valueAt(query, i), most);
                        }
                    }
                }
            }
        }

        private void hold(int key, int rank, int most) {
            int at = held;
            if (held >= most || held >= MOST_HITS) {
                if (held < 1 || rank <= hitRanks[held - 1]) {
                    return;
                }
                at = held - 1;
            } else {
                held++;
            }
            while (at > 0 && hitRanks[at - 1] < rank) {
                hitRanks[at] = hitRanks[at - 1];
                hitKeys[at] = hitKeys[at - 1];
                at--;
            }
            hitRanks[at] = rank;
            hitKeys[at] = key;
        }

        /** The entry of the cache for a query and a segment that was read, put there if it was not. */
        private int entryOf(Query query, int queryNumber, Segment segment) {
            cacheUses++;
            for (int i = 0; i < cacheSize && i < MOST_CACHED; i++) {
                if (cacheQueries[i] == queryNumber && cacheSegments[i] == segment.number) {
                    takenMatches++;
                    cacheTimes[i] = cacheUses;
                    return i;
                }
            }
            int entry = freeEntry();
            cacheQueries[entry] = queryNumber;
            cacheSegments[entry] = segment.number;
            cacheTimes[entry] = cacheUses;
            for (int i = 0; i < segment.size() && i < MOST_KEYS; i++) {
                cacheMatches[entry][i] = reader.valueAt(query, i) == NONE ? 0 : 1;
            }
            return entry;
        }

        private int freeEntry() {
            if (cacheSize < MOST_CACHED) {
                cacheSize++;
                return cacheSize - 1;
            }
            int oldest = 0;
            for (int i = 1; i < MOST_CACHED; i++) {
                if (cacheTimes[i] < cacheTimes[oldest]) {
                    oldest = i;
                }
            }
            return oldest;
        }

        // ---- passages

        /** Finds the passages of a document, which may be null; answers how many they are. */
        int readPassages(Document document, Query query, int field) {
            if (document == null) {
                return 0;
            }
            reader.scanDocument(query, document);
            int marked = readSpots(query, field);
            for (int count = 1; marked != 0 && count <= MOST_PASSAGES; count++) {
                if (isCovered(spots, starts, marked, 0, count)) {
                    return count;
                }
            }
            return 0;
        }

        /** Reads the marked places of each leaf in the document that was read; answers those of all of them. */
        private int readSpots(Query query, int field) {
            Arrays.fill(spots, EVERYWHERE);
            if (reader.valueAt(query, 0) == NONE) {
                return 0;
            }
            int marked = 0;
            for (int i = 0; i < query.leaves.size() && i < spots.length; i++) {
                Node leaf = query.leaves.get(i);
                int mark = reader.markAt(i, 0);
                if (!leaf.isAside && leaf.field == field && mark != 0) {
                    spots[i] = mark;
                    marked |= mark;
                }
            }
            return marked;
        }

        /** Whether passages put behind those that are there can do, so that there are so many in all. */
        private static boolean isCovered(int[] spots, int[] starts, int marked, int put, int count) {
            if (put < 0 || put >= count || put >= starts.length) {
                return areSpotsIn(spots, starts, count);
            }
            // The first set that does is the one that begins earlier: places rise.
            for (int place = put == 0 ? 0 : starts[put - 1] + 1; place < MOST_PLACES; place++) {
                if ((marked >> place & 1) != 0) {
                    starts[put] = place;
                    if (isCovered(spots, starts, marked, put + 1, count)) {
                        return true;
                    }
                }
            }
            return false;
        }

        private static boolean areSpotsIn(int[] spots, int[] starts, int count) {
            int places = 0;
            for (int i = 0; i < count && i < starts.length; i++) {
                places |= PASSAGE << starts[i];
            }
            for (int i = 0; i < spots.length; i++) {
                if ((spots[i] & places) == 0) {
                    return false;
                }
            }
            return true;
        }
    }
}
