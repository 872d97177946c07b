import java.util.NoSuchElementException;

/**
 * Searches a small collection by words, by learned weights and by vectors, and puts the lists together.
 * Every row is made with the object and used again, so that no call but a throwing one makes anything.
 */
public final class HybridSearch {
    private static final int MAX_DOCUMENTS = 16;
    private static final int TERMS = 12;
    private static final int MAX_COUNT = 1000;
    private static final int MAX_TOKENS = 4;
    private static final int MAX_CENTROIDS = 4;
    private static final int MAX_QUERY_TERMS = 4;
    private static final int MAX_QUERY_WEIGHT = 100;
    private static final int MAX_QUERY_VECTORS = 3;
    private static final int DIMENSIONS = 4;
    private static final int MAX_K = 20;
    private static final int MAX_SHARDS = 3;
    private static final int BLOCK_SIZE = 4;
    private static final int BLOCKS = MAX_DOCUMENTS / BLOCK_SIZE;

    private static final int VIEW_WORDS = 0;
    private static final int VIEW_IMPACTS = 1;
    private static final int VIEW_VECTORS = 2;
    private static final int VIEWS = 3;

    private static final int HOW_ALL = 0;
    private static final int HOW_PRUNED = 1;
    private static final int HOW_NEAR = 2;

    private static final int WORK_SCORED = 0;
    private static final int WORK_SKIPPED = 1;
    private static final int WORK_PASSED = 2;

    private static final int WAY_RANKS = 0;
    private static final int WAY_SUM = 1;
    private static final int WAY_MANY = 2;

    private final Collection collection;
    private final TermRow words;
    private final TermRow impacts;
    private final VectorRow vectors;
    private final PartTable parts;
    private final VectorScorer nearness;
    private final Ranking shardRanking;
    private final Listing[] lists;
    private final Fusion fusion;

    public HybridSearch() {
        collection = new Collection();
        words = new TermRow();
        impacts = new TermRow();
        vectors = new VectorRow(MAX_QUERY_VECTORS);
        parts = new PartTable();
        nearness = new VectorScorer(collection, vectors);
        shardRanking = new Ranking();
        lists = new Listing[VIEWS];
        for (int view = 0; view < VIEWS; view++) {
            lists[view] = new Listing();
        }
        fusion = new Fusion();
    }

    public int document() throws IllegalStateException {
        if (collection.isFull()) {
            throw new IllegalStateException("there are 16 documents");
        }
        forgetAllLists();
        return collection.addDocument();
    }

    public int count(int document, int term) throws IndexOutOfBoundsException, IllegalStateException {
        if (!collection.holds(document) || !isTerm(term)) {
            throw new IndexOutOfBoundsException("no such document or term");
        }
        if (collection.countOf(document, term) >= MAX_COUNT) {
            throw new IllegalStateException("the count is 1000");
        }
        forgetAllLists();
        return collection.addCount(document, term);
    }

    public void weigh(int document, int term, float weight)
            throws IndexOutOfBoundsException, IllegalArgumentException {
        if (!collection.holds(document) || !isTerm(term)) {
            throw new IndexOutOfBoundsException("no such document or term");
        }
        if (!isAllowed(weight) || weight < 0) {
            throw new IllegalArgumentException("the weight will not do");
        }
        forgetAllLists();
        collection.setWeight(document, term, weight);
    }

    public int token(int document, float a, float b, float c, float d)
            throws IndexOutOfBoundsException, IllegalArgumentException, IllegalStateException {
        if (!collection.holds(document)) {
            throw new IndexOutOfBoundsException("no such document");
        }
        if (!areAllowed(a, b, c, d)) {
            throw new IllegalArgumentException("a number will not do");
        }
        VectorRow tokens = collection.tokensOf(document);
        if (tokens.isFull()) {
            throw new IllegalStateException("the document has 4 tokens");
        }
        forgetAllLists();
        return tokens.add(a, b, c, d) - 1;
    }

    public int centroid(float a, float b, float c, float d)
            throws IllegalArgumentException, IllegalStateException {
        if (!areAllowed(a, b, c, d)) {
            throw new IllegalArgumentException("a number will not do");
        }
        if (collection.centroidRow().isFull()) {
            throw new IllegalStateException("there are 4 centroids");
        }
        forgetAllLists();
        return collection.centroidRow().add(a, b, c, d) - 1;
    }

    public void clear() {
        words.empty();
        impacts.empty();
        vectors.empty();
        forgetAllLists();
    }

    public int word(int term)
            throws IndexOutOfBoundsException, IllegalArgumentException, IllegalStateException {
        if (!isTerm(term)) {
            throw new IndexOutOfBoundsException("no such term");
        }
        if (words.holds(term)) {
            throw new IllegalArgumentException("the word is there");
        }
        if (words.isFull()) {
            throw new IllegalStateException("there are 4 words");
        }
        forgetList(VIEW_WORDS);
        return words.add(term, 1);
    }

    public int impact(int term, int weight)
            throws IndexOutOfBoundsException, IllegalArgumentException, IllegalStateException {
        if (!isTerm(term)) {
            throw new IndexOutOfBoundsException("no such term");
        }
        if (impacts.holds(term) || weight < 1 || weight > MAX_QUERY_WEIGHT) {
            throw new IllegalArgumentException("the impact is there, or its weight will not do");
        }
        if (impacts.isFull()) {
            throw new IllegalStateException("there are 4 impacts");
        }
        forgetList(VIEW_IMPACTS);
        return impacts.add(term, weight);
    }

    public int vector(float a, float b, float c, float d)
            throws IllegalArgumentException, IllegalStateException {
        if (!areAllowed(a, b, c, d)) {
            throw new IllegalArgumentException("a number will not do");
        }
        if (vectors.isFull()) {
            throw new IllegalStateException("there are 3 vectors");
        }
        forgetList(VIEW_VECTORS);
        return vectors.add(a, b, c, d);
    }

    public int search(int view, int how, int k, int shards)
            throws IllegalArgumentException, IllegalStateException {
        if (!isView(view) || !isMadeHow(view, how)) {
            throw new IllegalArgumentException("no such view, or it is not made so");
        }
        if (k < 0 || k > MAX_K || shards < 1 || shards > MAX_SHARDS) {
            throw new IllegalArgumentException("K or the number of shards will not do");
        }
        if (how == HOW_NEAR && collection.centroidRow().size() == 0) {
            throw new IllegalStateException("there are no centroids");
        }
        fusion.forget();
        return makeList(view, how, k, shards);
    }

    public int hit(int view, int i)
            throws IllegalArgumentException, NoSuchElementException, IndexOutOfBoundsException {
        return listWithPlace(view, i).ranking().documentAt(i);
    }

    public double score(int view, int i)
            throws IllegalArgumentException, NoSuchElementException, IndexOutOfBoundsException {
        return listWithPlace(view, i).ranking().scoreAt(i);
    }

    public int work(int view, int what) throws IllegalArgumentException, NoSuchElementException {
        if (what != WORK_SCORED && what != WORK_SKIPPED && what != WORK_PASSED) {
            throw new IllegalArgumentException("no such work");
        }
        Listing list = madeList(view);
        switch (what) {
            case WORK_SCORED:
                return list.scored();
            case WORK_SKIPPED:
                return list.skipped();
            default:
                return list.passed();
        }
    }

    public int fuse(int way) throws IllegalArgumentException, IllegalStateException {
        if (way != WAY_RANKS && way != WAY_SUM && way != WAY_MANY) {
            throw new IllegalArgumentException("no such way");
        }
        if (!isAnyListMade()) {
            throw new IllegalStateException("there is no list");
        }
        return fusion.make(lists, way);
    }

    public int fused(int i) throws IndexOutOfBoundsException {
        if (!fusion.ranking().holdsPlace(i)) {
            throw new IndexOutOfBoundsException("no such place");
        }
        return fusion.ranking().documentAt(i);
    }

    public double rating(int i) throws IndexOutOfBoundsException {
        if (!fusion.ranking().holdsPlace(i)) {
            throw new IndexOutOfBoundsException("no such place");
        }
        return fusion.ranking().scoreAt(i);
    }

    public double log(double x) {
        // The second bound is the greatest finite double; a NaN is within neither.
        return x >= 1 && x <= 1.7976931348623157E308 ? logarithm(x) : -1;
    }

    public int quantised(int document, int term) throws IndexOutOfBoundsException {
        if (!collection.holds(document) || !isTerm(term)) {
            throw new IndexOutOfBoundsException("no such document or term");
        }
        return collection.impactOf(document, term, collection.greatestWeight());
    }

    private static boolean isTerm(int term) {
        return term >= 0 && term < TERMS;
    }

    private static boolean isView(int view) {
        return view >= 0 && view < VIEWS;
    }

    private static boolean isMadeHow(int view, int how) {
        return how == HOW_ALL || how == (view == VIEW_VECTORS ? HOW_NEAR : HOW_PRUNED);
    }

    private static boolean isAllowed(float x) {
        return x >= -1048576f && x <= 1048576f;
    }

    private static boolean areAllowed(float a, float b, float c, float d) {
        return isAllowed(a) && isAllowed(b) && isAllowed(c) && isAllowed(d);
    }

    private void forgetAllLists() {
        for (int view = 0; view < VIEWS; view++) {
            forgetList(view);
        }
    }

    private void forgetList(int view) {
        lists[view].forget();
        fusion.forget();
    }

    private boolean isAnyListMade() {
        for (int view = 0; view < VIEWS; view++) {
            if (lists[view].isMade()) {
                return true;
            }
        }
        return false;
    }

    private Listing madeList(int view) {
        if (!isView(view)) {
            throw new IllegalArgumentException("no such view");
        }
        if (!lists[view].isMade()) {
            throw new NoSuchElementException("the view has no list");
        }
        return lists[view];
    }

    private Listing listWithPlace(int view, int i) {
        Listing list = madeList(view);
        if (!list.ranking().holdsPlace(i)) {
            throw new IndexOutOfBoundsException("no such place");
        }
        return list;
    }

    private int makeList(int view, int how, int k, int shards) {
        Scorer scorer = preparedScorer(view, how);
        Listing list = lists[view];
        list.start(k);
        for (int shard = 0; shard < shards; shard++) {
            shardRanking.start(k);
            if (how == HOW_PRUNED) {
                pruneShard(list, shard, shards);
            } else {
                scoreShard(list, scorer, shard, shards);
            }
            list.ranking().offerAll(shardRanking);
        }
        return list.ranking().size();
    }

    private Scorer preparedScorer(int view, int how) {
        if (view == VIEW_VECTORS) {
            nearness.prepare(how == HOW_NEAR);
            return nearness;
        }
        if (view == VIEW_WORDS) {
            parts.fillWords(collection, words);
        } else {
            parts.fillImpacts(collection, impacts);
        }
        return parts;
    }

    private static boolean isOfShard(int document, int shard, int shards) {
        return shards > 0 && document % shards == shard;
    }

    private void scoreShard(Listing list, Scorer scorer, int shard, int shards) {
        for (int document = 0; document < collection.size(); document++) {
            if (isOfShard(document, shard, shards) && scorer.matches(document)) {
                list.addScored();
                shardRanking.offer(document, scorer.scoreOf(document));
            }
        }
    }

    private void pruneShard(Listing list, int shard, int shards) {
        for (int block = 0; block < BLOCKS; block++) {
            if (!hasDocumentOfShard(block, shard, shards)) {
                continue;
            }
            if (shardRanking.shutsOut(parts.blockBound(block))) {
                list.addSkipped();
            } else {
                pruneBlock(list, block, shard, shards);
            }
        }
    }

    private int endOfBlock(int block) {
        return Math.min((block + 1) * BLOCK_SIZE, collection.size());
    }

    private boolean hasDocumentOfShard(int block, int shard, int shards) {
        int end = endOfBlock(block);
        for (int document = block * BLOCK_SIZE; document < end; document++) {
            if (isOfShard(document, shard, shards)) {
                return true;
            }
        }
        return false;
    }

    private void pruneBlock(Listing list, int block, int shard, int shards) {
        int end = endOfBlock(block);
        for (int document = block * BLOCK_SIZE; document < end; document++) {
            if (!isOfShard(document, shard, shards) || !parts.matches(document)) {
                continue;
            }
            if (shardRanking.shutsOut(parts.documentBound(document))) {
                list.addPassed();
            } else {
                list.addScored();
                shardRanking.offer(document, parts.scoreOf(document));
            }
        }
    }

    private static double logarithm(double x) {
        double m = x;
        int e = 0;
        // A finite double is below 2 after 1023 halvings.
        while (m >= 2 && e < 1100) {
            m = m / 2;
            e++;
        }
        double s = (m - 1) / (m + 1);
        double p = s;
        double sum = 0;
        for (int n = 1; n <= 19; n += 2) {
            sum = sum + p / n;
            p = p * (s * s);
        }
        return 2 * sum + e * 0.6931471805599453;
    }

    private static double inverseFrequency(int documents, int having) {
        return logarithm(1 + (documents - having + 0.5) / (having + 0.5));
    }

    private static double wordPart(double idf, int occurrences, int length, double average) {
        if (occurrences <= 0 || !(average > 0)) {
            return 0;
        }
        double k = 1.2;
        double b = 0.75;
        return idf * (occurrences * (k + 1)) / (occurrences + k * (1 - b + b * (length / average)));
    }

    private static float greater(float first, float second) {
        if (first > second) {
            return first;
        }
        if (second > first) {
            return second;
        }
        return first == 0 ? first + second : first;
    }

    /** Vectors of four floats, one behind the other in one array, so that a row costs few objects. */
    private static final class VectorRow {
        private final float[] numbers;
        private final int limit;
        private int size;

        VectorRow(int limit) {
            this.limit = Math.max(limit, 0);
            this.numbers = new float[this.limit * DIMENSIONS];
        }

        int size() {
            return size;
        }

        boolean isFull() {
            return size >= limit;
        }

        void empty() {
            size = 0;
        }

        /** How many there are then; a full row stays as it is. */
        int add(float a, float b, float c, float d) {
            if (size < limit) {
                int start = size * DIMENSIONS;
                numbers[start] = a;
                numbers[start + 1] = b;
                numbers[start + 2] = c;
                numbers[start + 3] = d;
                size++;
            }
            return size;
        }

        float product(int i, VectorRow other, int j) {
            float sum = 0f;
            for (int n = 0; n < DIMENSIONS; n++) {
                sum = sum + numbers[i * DIMENSIONS + n] * other.numbers[j * DIMENSIONS + n];
            }
            return sum;
        }

        /** The vector of another row with the greatest product, of equal ones the first; -1 if it is empty. */
        int nearestIn(VectorRow others, int i) {
            int nearest = -1;
            float greatest = 0f;
            for (int j = 0; j < others.size; j++) {
                float product = product(i, others, j);
                if (nearest < 0 || product > greatest) {
                    nearest = j;
                    greatest = product;
                }
            }
            return nearest;
        }
    }

    /** The query's terms for one view, in their order, each with its weight. */
    private static final class TermRow {
        private final int[] terms = new int[MAX_QUERY_TERMS];
        private final int[] weights = new int[MAX_QUERY_TERMS];
        private int size;

        int size() {
            return size;
        }

        boolean isFull() {
            return size >= MAX_QUERY_TERMS;
        }

        void empty() {
            size = 0;
        }

        boolean holds(int term) {
            for (int i = 0; i < size; i++) {
                if (terms[i] == term) {
                    return true;
                }
            }
            return false;
        }

        /** How many there are then; a full row stays as it is. */
        int add(int term, int weight) {
            if (size < MAX_QUERY_TERMS) {
                terms[size] = term;
                weights[size] = weight;
                size++;
            }
            return size;
        }

        int termAt(int i) {
            return terms[i];
        }

        int weightAt(int i) {
            return weights[i];
        }
    }

    /** The documents with their counts, weights and tokens, and the centroids. */
    private static final class Collection {
        private final int[][] counts = new int[MAX_DOCUMENTS][TERMS];
        private final int[] lengths = new int[MAX_DOCUMENTS];
        private final float[][] weights = new float[MAX_DOCUMENTS][TERMS];
        private final VectorRow[] tokens = new VectorRow[MAX_DOCUMENTS];
        private final VectorRow centroids = new VectorRow(MAX_CENTROIDS);
        private int size;

        Collection() {
            for (int document = 0; document < MAX_DOCUMENTS; document++) {
                tokens[document] = new VectorRow(MAX_TOKENS);
            }
        }

        int size() {
            return size;
        }

        boolean isFull() {
            return size >= MAX_DOCUMENTS;
        }

        boolean holds(int document) {
            return document >= 0 && document < size;
        }

        /** The new document's number. */
        int addDocument() {
            size++;
            return size - 1;
        }

        int countOf(int document, int term) {
            return counts[document][term];
        }

        int lengthOf(int document) {
            return lengths[document];
        }

        int addCount(int document, int term) {
            counts[document][term]++;
            lengths[document]++;
            return counts[document][term];
        }

        void setWeight(int document, int term, float weight) {
            weights[document][term] = weight;
        }

        VectorRow tokensOf(int document) {
            return tokens[document];
        }

        VectorRow centroidRow() {
            return centroids;
        }

        int documentsWith(int term) {
            int having = 0;
            for (int document = 0; document < size; document++) {
                if (counts[document][term] > 0) {
                    having++;
                }
            }
            return having;
        }

        double averageLength() {
            int all = 0;
            for (int document = 0; document < size; document++) {
                all += lengths[document];
            }
            return size == 0 ? 0 : (double) all / size;
        }

        float greatestWeight() {
            float greatest = 0f;
            for (int document = 0; document < size; document++) {
                for (int term = 0; term < TERMS; term++) {
                    greatest = greater(greatest, weights[document][term]);
                }
            }
            return greatest;
        }

        int impactOf(int document, int term, float greatestWeight) {
            float weight = weights[document][term];
            if (!(weight > 0) || !(greatestWeight > 0)) {
                return 0;
            }
            return (int) (weight / greatestWeight * 255 + 0.5f);
        }
    }

    /** Says which documents match, and what their scores are. */
    private abstract static class Scorer {
        abstract boolean matches(int document);

        abstract double scoreOf(int document);
    }

    /**
     * What each of the query's terms adds to each document, and its bound in each block.
     * A part is above 0 just if the document has the term: no word's IDF is 0, and no impact's weight is.
     * Those of impacts are whole numbers, far below where sums of doubles stop being those of longs.
     */
    private static final class PartTable extends Scorer {
        private final double[][] parts = new double[MAX_QUERY_TERMS][MAX_DOCUMENTS];
        private final double[][] bounds = new double[MAX_QUERY_TERMS][BLOCKS];
        private int terms;

        void fillWords(Collection collection, TermRow words) {
            terms = words.size();
            double average = collection.averageLength();
            for (int i = 0; i < terms; i++) {
                int term = words.termAt(i);
                double idf = inverseFrequency(collection.size(), collection.documentsWith(term));
                for (int document = 0; document < collection.size(); document++) {
                    int occurrences = collection.countOf(document, term);
                    parts[i][document] = wordPart(idf, occurrences, collection.lengthOf(document), average);
                }
            }
            fillBounds(collection.size());
        }

        void fillImpacts(Collection collection, TermRow impacts) {
            terms = impacts.size();
            float greatest = collection.greatestWeight();
            for (int i = 0; i < terms; i++) {
                for (int document = 0; document < collection.size(); document++) {
                    long impact = collection.impactOf(document, impacts.termAt(i), greatest);
                    parts[i][document] = (double) (impacts.weightAt(i) * impact);
                }
            }
            fillBounds(collection.size());
        }

        private void fillBounds(int documents) {
            for (int i = 0; i < terms; i++) {
                for (int block = 0; block < BLOCKS; block++) {
                    bounds[i][block] = 0;
                }
                for (int document = 0; document < documents; document++) {
                    int block = document / BLOCK_SIZE;
                    if (parts[i][document] > bounds[i][block]) {
                        bounds[i][block] = parts[i][document];
                    }
                }
            }
        }

        boolean matches(int document) {
            for (int i = 0; i < terms; i++) {
                if (parts[i][document] > 0) {
                    return true;
                }
            }
            return false;
        }

        double scoreOf(int document) {
            double sum = 0;
            for (int i = 0; i < terms; i++) {
                if (parts[i][document] > 0) {
                    sum = sum + parts[i][document];
                }
            }
            return sum;
        }

        double blockBound(int block) {
            double sum = 0;
            for (int i = 0; i < terms; i++) {
                sum = sum + bounds[i][block];
            }
            return sum;
        }

        double documentBound(int document) {
            double sum = 0;
            for (int i = 0; i < terms; i++) {
                if (parts[i][document] > 0) {
                    sum = sum + bounds[i][document / BLOCK_SIZE];
                }
            }
            return sum;
        }
    }

    /** Scores by vectors: all documents with a token, or candidates alone. */
    private static final class VectorScorer extends Scorer {
        private final Collection collection;
        private final VectorRow queries;
        private final boolean[] wanted = new boolean[MAX_CENTROIDS];
        private boolean near;

        VectorScorer(Collection collection, VectorRow queries) {
            this.collection = collection;
            this.queries = queries;
        }

        void prepare(boolean candidatesAlone) {
            near = candidatesAlone;
            for (int c = 0; c < MAX_CENTROIDS; c++) {
                wanted[c] = false;
            }
            for (int q = 0; q < queries.size(); q++) {
                int nearest = queries.nearestIn(collection.centroidRow(), q);
                if (nearest >= 0) {
                    wanted[nearest] = true;
                }
            }
        }

        boolean matches(int document) {
            VectorRow tokens = collection.tokensOf(document);
            if (near) {
                return isCandidate(tokens);
            }
            return tokens.size() > 0 && queries.size() > 0;
        }

        private boolean isCandidate(VectorRow tokens) {
            for (int t = 0; t < tokens.size(); t++) {
                int nearest = tokens.nearestIn(collection.centroidRow(), t);
                if (nearest >= 0 && wanted[nearest]) {
                    return true;
                }
            }
            return false;
        }

        double scoreOf(int document) {
            VectorRow tokens = collection.tokensOf(document);
            float sum = 0f;
            for (int q = 0; q < queries.size(); q++) {
                sum = sum + greatestProduct(q, tokens);
            }
            return sum;
        }

        private float greatestProduct(int q, VectorRow tokens) {
            if (tokens.size() == 0) {
                return 0f;
            }
            float greatest = queries.product(q, tokens, 0);
            for (int t = 1; t < tokens.size(); t++) {
                greatest = greater(greatest, queries.product(q, tokens, t));
            }
            return greatest;
        }
    }

    /** Documents by score, the greatest first, of equal ones by number; only the first few of them. */
    private static final class Ranking {
        private final int[] documents = new int[MAX_K];
        private final double[] scores = new double[MAX_K];
        private int limit;
        private int size;

        void start(int newLimit) {
            limit = Math.min(newLimit, MAX_K);
            size = 0;
        }

        int size() {
            return size;
        }

        boolean holdsPlace(int i) {
            return i >= 0 && i < size;
        }

        int documentAt(int i) {
            return documents[i];
        }

        double scoreAt(int i) {
            return scores[i];
        }

        /** Whether nothing that scores at most so much can come in behind those that are here. */
        boolean shutsOut(double bound) {
            if (size < limit) {
                return false;
            }
            return size == 0 || !(bound > scores[size - 1]);
        }

        void offer(int document, double score) {
            int place = size;
            while (place > 0 && isBefore(document, score, place - 1)) {
                place--;
            }
            if (place >= limit) {
                return;
            }
            // In a full ranking the last one is written over.
            if (size < limit) {
                size++;
            }
            for (int i = size - 1; i > place; i--) {
                documents[i] = documents[i - 1];
                scores[i] = scores[i - 1];
            }
            documents[place] = document;
            scores[place] = score;
        }

        private boolean isBefore(int document, double score, int place) {
            return score > scores[place] || (score == scores[place] && document < documents[place]);
        }

        void offerAll(Ranking other) {
            for (int i = 0; i < other.size; i++) {
                offer(other.documents[i], other.scores[i]);
            }
        }
    }

    /** The latest list of a view, if there is one, and the work that making it was. */
    private static final class Listing {
        private final Ranking ranking = new Ranking();
        private boolean made;
        private int scored;
        private int skipped;
        private int passed;

        void start(int limit) {
            ranking.start(limit);
            made = true;
            scored = 0;
            skipped = 0;
            passed = 0;
        }

        void forget() {
            made = false;
        }

        boolean isMade() {
            return made;
        }

        Ranking ranking() {
            return ranking;
        }

        void addScored() {
            scored++;
        }

        void addSkipped() {
            skipped++;
        }

        void addPassed() {
            passed++;
        }

        int scored() {
            return scored;
        }

        int skipped() {
            return skipped;
        }

        int passed() {
            return passed;
        }
    }

    /** What the latest fuse made of the lists; empty once it no longer holds. */
    private static final class Fusion {
        private final Ranking ranking = new Ranking();
        private final double[] totals = new double[MAX_DOCUMENTS];
        private final int[] memberships = new int[MAX_DOCUMENTS];

        Ranking ranking() {
            return ranking;
        }

        void forget() {
            ranking.start(0);
        }

        int make(Listing[] lists, int way) {
            for (int document = 0; document < MAX_DOCUMENTS; document++) {
                totals[document] = 0;
                memberships[document] = 0;
            }
            for (int view = 0; view < lists.length; view++) {
                if (lists[view].isMade()) {
                    addList(lists[view].ranking(), way);
                }
            }
            ranking.start(MAX_DOCUMENTS);
            for (int document = 0; document < MAX_DOCUMENTS; document++) {
                if (memberships[document] > 0) {
                    ranking.offer(document, way == WAY_MANY
                            ? totals[document] * memberships[document] : totals[document]);
                }
            }
            return ranking.size();
        }

        private void addList(Ranking list, int way) {
            for (int i = 0; i < list.size(); i++) {
                int document = list.documentAt(i);
                totals[document] = totals[document]
                        + (way == WAY_RANKS ? 1.0 / (60 + (i + 1)) : shareAt(list, i));
                memberships[document]++;
            }
        }

        private static double shareAt(Ranking list, int i) {
            double greatest = list.scoreAt(0);
            double least = list.scoreAt(list.size() - 1);
            if (!(greatest > least)) {
                return 1.0;
            }
            return (list.scoreAt(i) - least) / (greatest - least);
        }
    }
}
