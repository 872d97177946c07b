/** The boundaries of promises 1 to 6 and 19, and of what 'Terms' says of the collection; refusals: RefusedTest. */
public final class CollectionEdgeTest implements Kinds {
    private static final float MOST = 1048576f;
    private static final float[] FINE = {-MOST, Math.nextUp(-MOST), -Float.MIN_VALUE, -0f, 0f, Float.MIN_VALUE,
        Math.nextDown(MOST), MOST};

    private static final Checks checks = new Checks("CollectionEdgeTest");

    public static void main(String[] args) {
        aNewObjectHasNothing();
        objectsAreApart();
        sixteenDocuments();
        aDocumentIsThereOnceItIsMade();
        aNewDocumentIsEmpty();
        twelveTerms();
        aThousandTimes();
        weightsFromZero();
        aWeightTakesTheFormerOnesPlace();
        fourTokensOfEachDocument();
        theFourthTokenCounts();
        fourCentroids();
        theFourthCentroidCounts();
        numbersOfAllPlaces();
        impactsOfTheGreatestWeight();
        impactsThatAreRounded();
        impactsWithoutWeights();
        readingChangesNothing();
        checks.end();
    }

    /** "No documents, no centroids, an empty query, no lists." */
    private static void aNewObjectHasNothing() {
        HybridSearch x = new HybridSearch();
        checks.noLists("of a new object", x);
        checks.refuses("no document to count", INDEX, () -> x.count(0, 0));
        checks.refuses("no document to weigh", INDEX, () -> x.weigh(0, 0, 1f));
        checks.refuses("no document for a token", INDEX, () -> x.token(0, 0f, 0f, 0f, 0f));
        checks.refuses("no document with an impact", INDEX, () -> x.quantised(0, 0));
        checks.refuses("no centroids", STATE, () -> x.search(2, 2, 20, 1));
        for (int view = 0; view < 3; view++) {
            int v = view;
            checks.answers("nothing to search", 0, () -> x.search(v, 0, 20, 3));
            checks.found("nothing to search", x, v);
            checks.worked("nothing to search", x, v, 0, 0, 0);
        }
        checks.answers("the first document", 0, x::document);
        checks.answers("the first centroid", 0, () -> x.centroid(0f, 0f, 0f, 0f));
        checks.answers("the first word", 1, () -> x.word(0));
        checks.answers("the first impact", 1, () -> x.impact(0, 1));
        checks.answers("the first vector", 1, () -> x.vector(0f, 0f, 0f, 0f));
    }

    private static void objectsAreApart() {
        HybridSearch full = Samples.full();
        HybridSearch x = new HybridSearch();
        checks.same("a new object beside a full one", Probe.of(new HybridSearch()), Probe.of(x));
        checks.same("a full object beside a new one", Probe.of(Samples.full()), Probe.of(full));
    }

    /** "A new document: its number. .. IllegalStateException if there are 16." */
    private static void sixteenDocuments() {
        HybridSearch x = new HybridSearch();
        for (int n = 0; n < 16; n++) {
            checks.answers("document " + n, n, x::document);
        }
        checks.refuses("document 16", STATE, x::document);
        checks.refuses("document 16 again", STATE, x::document);
        x.clear();
        checks.refuses("document 16 after clear", STATE, x::document);
        checks.answers("the first one", 1, () -> x.count(0, 0));
        checks.answers("the last one", 1, () -> x.count(15, 0));
        checks.refuses("the one that was refused", INDEX, () -> x.count(16, 0));
        checks.refuses("the one that was refused, weighed", INDEX, () -> x.weigh(16, 0, 1f));
        checks.refuses("a token of it", INDEX, () -> x.token(16, 0f, 0f, 0f, 0f));
        checks.refuses("an impact of it", INDEX, () -> x.quantised(16, 0));
    }

    /** "IndexOutOfBoundsException if there is no such document". */
    private static void aDocumentIsThereOnceItIsMade() {
        HybridSearch x = new HybridSearch();
        for (int document = 0; document < 16; document++) {
            int d = document;
            checks.refuses("count before " + d, INDEX, () -> x.count(d, 0));
            checks.refuses("weigh before " + d, INDEX, () -> x.weigh(d, 0, 1f));
            checks.refuses("token before " + d, INDEX, () -> x.token(d, 0f, 0f, 0f, 0f));
            checks.refuses("quantised before " + d, INDEX, () -> x.quantised(d, 0));
            x.document();
            checks.answers("count after " + d, 1, () -> x.count(d, 0));
            checks.does("weigh after " + d, () -> x.weigh(d, 0, 1f));
            checks.answers("token after " + d, 0, () -> x.token(d, 0f, 0f, 0f, 0f));
            checks.answers("quantised after " + d, 255, () -> x.quantised(d, 0));
        }
    }

    /** "a COUNT (at first 0) and a WEIGHT (a float, at first 0)". */
    private static void aNewDocumentIsEmpty() {
        HybridSearch x = Samples.withDocuments(1);
        for (int term = 0; term < 12; term++) {
            x.count(0, term);
            x.weigh(0, term, MOST);
        }
        x.token(0, 1f, 1f, 1f, 1f);
        int d = x.document();
        for (int term = 0; term < 12; term++) {
            int t = term;
            checks.answers("no weight at first", 0, () -> x.quantised(d, t));
        }
        x.word(0);
        x.impact(0, 1);
        x.vector(1f, 1f, 1f, 1f);
        for (int view = 0; view < 3; view++) {
            x.search(view, 0, 20, 1);
            checks.found("a document without anything matches nothing", x, view, 0);
        }
        for (int term = 0; term < 12; term++) {
            int t = term;
            checks.answers("the first of its term", 1, () -> x.count(d, t));
        }
        checks.answers("its first token", 0, () -> x.token(d, 0f, 0f, 0f, 0f));
    }

    /** "for each TERM 0 .. 11": what is before or behind them is not the next document's. */
    private static void twelveTerms() {
        HybridSearch x = Samples.withDocuments(3);
        for (int term : new int[] {Integer.MIN_VALUE, -12, -1, 12, 24, Integer.MAX_VALUE}) {
            checks.refuses("count " + term, INDEX, () -> x.count(1, term));
            checks.refuses("weigh " + term, INDEX, () -> x.weigh(1, term, 1f));
            checks.refuses("quantised " + term, INDEX, () -> x.quantised(1, term));
        }
        for (int document = 0; document < 3; document++) {
            int d = document;
            for (int term = 0; term < 12; term++) {
                int t = term;
                checks.answers("nothing was weighed", 0, () -> x.quantised(d, t));
                checks.answers("nothing was counted", 1, () -> x.count(d, t));
            }
        }
        for (int term = 0; term < 12; term++) {
            int t = term;
            checks.does("weigh term " + t, () -> x.weigh(1, t, 1f));
            checks.answers("of term " + t, 255, () -> x.quantised(1, t));
            checks.answers("of the document before", 0, () -> x.quantised(0, t));
            checks.answers("of the document behind", 0, () -> x.quantised(2, t));
        }
    }

    /** "IllegalStateException if it has 1000 already": more calls than an object is used for, so this one is long. */
    private static void aThousandTimes() {
        HybridSearch x = Samples.withDocuments(2);
        for (int n = 1; n <= 1000; n++) {
            checks.answers("count " + n, n, () -> x.count(1, 11));
        }
        x.word(11);
        checks.answers("with 1000", 1, () -> x.search(0, 0, 1, 1));
        checks.refuses("count 1001", STATE, () -> x.count(1, 11));
        checks.refuses("count 1001 again", STATE, () -> x.count(1, 11));
        checks.found("the list stays", x, 0, 1);
        checks.scored("the list stays", x, 0, 1.5217281680789139);
        checks.answers("another term", 1, () -> x.count(1, 10));
        checks.answers("another document", 1, () -> x.count(0, 11));
        checks.refuses("still 1000", STATE, () -> x.count(1, 11));
        checks.refuses("no such term comes first", INDEX, () -> x.count(1, 12));
    }

    /** "weights are 0 or above", "numbers from -1048576 to 1048576". */
    private static void weightsFromZero() {
        HybridSearch x = Samples.withDocuments(1);
        for (float weight : FINE) {
            if (weight < 0) {
                checks.refuses("weight " + weight, ARGUMENT, () -> x.weigh(0, 0, weight));
            } else {
                checks.does("weight " + weight, () -> x.weigh(0, 0, weight));
                checks.answers("its impact", weight > 0 ? 255 : 0, () -> x.quantised(0, 0));
            }
        }
        for (float weight : Samples.WRONG) {
            checks.refuses("weight " + weight, ARGUMENT, () -> x.weigh(0, 0, weight));
        }
        checks.answers("the last that would do", 255, () -> x.quantised(0, 0));
    }

    private static void aWeightTakesTheFormerOnesPlace() {
        HybridSearch x = Samples.withDocuments(2);
        x.weigh(0, 0, 10f);
        x.weigh(1, 0, 100f);
        checks.answers("a tenth", 26, () -> x.quantised(0, 0));
        x.weigh(1, 0, 20f);
        checks.answers("a half of the lower weight", 128, () -> x.quantised(0, 0));
        x.weigh(1, 0, 0f);
        checks.answers("the only one left", 255, () -> x.quantised(0, 0));
        checks.answers("taken back", 0, () -> x.quantised(1, 0));
        x.weigh(1, 0, -0f);
        checks.answers("a weight of -0", 0, () -> x.quantised(1, 0));
        checks.answers("beside it", 255, () -> x.quantised(0, 0));
    }

    /** "A token more of a document: its number. .. IllegalStateException if it has 4." */
    private static void fourTokensOfEachDocument() {
        HybridSearch x = Samples.withDocuments(16);
        for (int n = 0; n < 4; n++) {
            for (int document = 0; document < 16; document++) {
                int d = document;
                checks.answers("token " + n + " of " + d, n, () -> x.token(d, 1f, 1f, 1f, 1f));
            }
        }
        for (int document = 0; document < 16; document++) {
            int d = document;
            checks.refuses("token 4 of " + d, STATE, () -> x.token(d, 1f, 1f, 1f, 1f));
        }
        checks.refuses("a wrong number comes first", ARGUMENT, () -> x.token(0, 0f, 0f, 0f, Float.NaN));
        checks.refuses("no such document comes first", INDEX, () -> x.token(16, 0f, 0f, 0f, Float.NaN));
    }

    private static void theFourthTokenCounts() {
        HybridSearch x = Samples.withDocuments(2);
        x.vector(1f, 0f, 0f, 0f);
        for (int n = 1; n <= 4; n++) {
            x.token(0, n, 0f, 0f, 0f);
            x.search(2, 0, 1, 1);
            checks.scored("with " + n + " tokens", x, 2, n);
        }
        checks.refuses("a fifth", STATE, () -> x.token(0, 5f, 0f, 0f, 0f));
        x.search(2, 0, 20, 1);
        checks.found("the fifth is nowhere", x, 2, 0);
        checks.scored("the fifth is nowhere", x, 2, 4.0);
    }

    /** "A centroid more: its number. .. IllegalStateException if there are 4." */
    private static void fourCentroids() {
        HybridSearch x = new HybridSearch();
        for (int n = 0; n < 4; n++) {
            int due = n;
            checks.answers("centroid " + n, due, () -> x.centroid(1f, 1f, 1f, 1f));
        }
        checks.refuses("centroid 4", STATE, () -> x.centroid(1f, 1f, 1f, 1f));
        x.clear();
        checks.refuses("centroid 4 after clear", STATE, () -> x.centroid(1f, 1f, 1f, 1f));
        checks.refuses("a wrong number comes first", ARGUMENT, () -> x.centroid(0f, 0f, 0f, Float.NaN));
    }

    private static void theFourthCentroidCounts() {
        HybridSearch x = Samples.withDocuments(3);
        x.token(0, 1f, 0f, 0f, 0f);
        x.token(1, 0f, 0f, 0f, 1f);
        x.token(2, 0f, 0f, 1f, 0f);
        x.vector(0f, 0f, 0f, 1f);
        x.centroid(1f, 0f, 0f, 0f);
        x.centroid(0f, 1f, 0f, 0f);
        x.centroid(0f, 0f, 1f, 0f);
        x.search(2, 2, 20, 1);
        checks.found("of three, the first is the vector's", x, 2, 1, 0);
        x.centroid(0f, 0f, 0f, 1f);
        x.search(2, 2, 20, 1);
        checks.found("of four, the fourth is", x, 2, 1);
        checks.refuses("a fifth", STATE, () -> x.centroid(0f, 0f, 2f, 2f));
        checks.found("the list stays", x, 2, 1);
        x.search(2, 2, 20, 1);
        checks.found("the fifth is nowhere: document 2 would be near it", x, 2, 1);
    }

    /** "All floats that come in are to be numbers from -1048576 to 1048576". */
    private static void numbersOfAllPlaces() {
        for (float n : FINE) {
            HybridSearch x = Samples.withDocuments(1);
            checks.answers("token a " + n, 0, () -> x.token(0, n, 0f, 0f, 0f));
            checks.answers("token b " + n, 1, () -> x.token(0, 0f, n, 0f, 0f));
            checks.answers("token c " + n, 2, () -> x.token(0, 0f, 0f, n, 0f));
            checks.answers("token d " + n, 3, () -> x.token(0, 0f, 0f, 0f, n));
            checks.answers("centroid a " + n, 0, () -> x.centroid(n, 0f, 0f, 0f));
            checks.answers("centroid b " + n, 1, () -> x.centroid(0f, n, 0f, 0f));
            checks.answers("centroid c " + n, 2, () -> x.centroid(0f, 0f, n, 0f));
            checks.answers("centroid d " + n, 3, () -> x.centroid(0f, 0f, 0f, n));
            checks.answers("vector a, d " + n, 1, () -> x.vector(n, 0f, 0f, n));
            checks.answers("vector b " + n, 2, () -> x.vector(0f, n, 0f, 0f));
            checks.answers("vector c " + n, 3, () -> x.vector(0f, 0f, n, 0f));
        }
    }

    /** "M is the greatest weight of all documents and terms." */
    private static void impactsOfTheGreatestWeight() {
        HybridSearch x = Samples.withDocuments(16);
        x.weigh(7, 5, 1f);
        checks.answers("the greatest is its own", 255, () -> x.quantised(7, 5));
        x.weigh(0, 0, 2f);
        checks.answers("of the first document and term", 128, () -> x.quantised(7, 5));
        x.weigh(15, 11, 4f);
        checks.answers("of the last document and term", 64, () -> x.quantised(7, 5));
        checks.answers("no longer the greatest", 128, () -> x.quantised(0, 0));
        x.weigh(7, 6, 8f);
        checks.answers("of its own document", 32, () -> x.quantised(7, 5));
        x.weigh(8, 5, 16f);
        checks.answers("of its own term", 16, () -> x.quantised(7, 5));
        x.weigh(8, 5, MOST);
        checks.answers("the greatest there is", 255, () -> x.quantised(8, 5));
        checks.answers("beside it", 0, () -> x.quantised(7, 5));
    }

    /** "(int) (W / M * 255 + 0.5f), in floats". */
    private static void impactsThatAreRounded() {
        HybridSearch x = Samples.withDocuments(2);
        x.weigh(0, 0, 510f);
        x.weigh(1, 0, 1f);
        checks.answers("one half becomes 1", 1, () -> x.quantised(1, 0));
        x.weigh(0, 0, MOST);
        // The two are next to each other; 0.4999999 and 0.5f are below 1, but 0.49999997 and 0.5f are 1 in floats.
        x.weigh(1, 0, 2056.031f);
        checks.answers("the last that becomes 0", 0, () -> x.quantised(1, 0));
        x.weigh(1, 0, Math.nextUp(2056.031f));
        checks.answers("the first that becomes 1", 1, () -> x.quantised(1, 0));
        x.weigh(1, 0, 1046519.9f);
        checks.answers("the last that becomes 254", 254, () -> x.quantised(1, 0));
        x.weigh(1, 0, Math.nextUp(1046519.9f));
        checks.answers("the first that becomes 255", 255, () -> x.quantised(1, 0));
        x.weigh(1, 0, Float.MIN_VALUE);
        checks.answers("the least of all", 0, () -> x.quantised(1, 0));
    }

    /** "of 0 it is 0", also if no weight is above it. */
    private static void impactsWithoutWeights() {
        HybridSearch x = Samples.withDocuments(16);
        checks.answers("never weighed", 0, () -> x.quantised(0, 0));
        x.weigh(0, 0, 0f);
        x.weigh(15, 11, -0f);
        checks.answers("all are 0", 0, () -> x.quantised(0, 0));
        checks.answers("all are 0, or -0", 0, () -> x.quantised(15, 11));
        x.weigh(3, 3, Float.MIN_VALUE);
        checks.answers("the least there is", 255, () -> x.quantised(3, 3));
        checks.answers("0 beside it", 0, () -> x.quantised(0, 0));
        checks.answers("-0 beside it", 0, () -> x.quantised(15, 11));
    }

    private static void readingChangesNothing() {
        HybridSearch x = Samples.full();
        x.quantised(0, 0);
        x.log(5);
        x.hit(0, 0);
        x.score(1, 0);
        x.work(2, 0);
        x.fused(0);
        x.rating(0);
        checks.same("after reading", Probe.of(Samples.full()), Probe.of(x));
    }
}
