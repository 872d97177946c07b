/** Promises 2 to 6 and 19: document, count, weigh, token, centroid, quantised. */
public final class CollectionTest implements Kinds {
    private static final Checks checks = new Checks("CollectionTest");

    public static void main(String[] args) {
        documents();
        countsOfTerms();
        weights();
        tokens();
        centroids();
        quantisedWeights();
        everyChangeTakesTheLists();
        checks.end();
    }

    private static void documents() {
        HybridSearch x = new HybridSearch();
        for (int n = 0; n < 16; n++) {
            checks.answers("document " + n, n, x::document);
        }
        checks.refuses("document 16", STATE, x::document);
        checks.answers("the last document", 1, () -> x.count(15, 11));
        checks.refuses("a document beyond", INDEX, () -> x.count(16, 0));
    }

    private static void countsOfTerms() {
        HybridSearch x = Samples.withDocuments(2);
        checks.answers("first", 1, () -> x.count(0, 0));
        checks.answers("second", 2, () -> x.count(0, 0));
        checks.answers("another term", 1, () -> x.count(0, 11));
        checks.answers("another document", 1, () -> x.count(1, 0));
        checks.refuses("document -1", INDEX, () -> x.count(-1, 0));
        checks.refuses("document 2", INDEX, () -> x.count(2, 0));
        checks.refuses("term -1", INDEX, () -> x.count(0, -1));
        checks.refuses("term 12", INDEX, () -> x.count(0, 12));
        checks.refuses("far document", INDEX, () -> x.count(Integer.MAX_VALUE, 0));
        checks.refuses("far term", INDEX, () -> x.count(0, Integer.MIN_VALUE));
    }

    private static void weights() {
        HybridSearch x = Samples.withDocuments(1);
        checks.does("0", () -> x.weigh(0, 0, 0f));
        checks.does("-0 is not below 0", () -> x.weigh(0, 0, -0f));
        checks.does("the greatest", () -> x.weigh(0, 0, 1048576f));
        checks.does("the least", () -> x.weigh(0, 11, Float.MIN_VALUE));
        for (float weight : Samples.WRONG) {
            checks.refuses("weight " + weight, ARGUMENT, () -> x.weigh(0, 0, weight));
            checks.refuses("no such document comes first", INDEX, () -> x.weigh(1, 0, weight));
        }
        checks.refuses("below 0", ARGUMENT, () -> x.weigh(0, 0, -Float.MIN_VALUE));
        checks.refuses("document -1", INDEX, () -> x.weigh(-1, 0, 1f));
        checks.refuses("document 1", INDEX, () -> x.weigh(1, 0, 1f));
        checks.refuses("term -1", INDEX, () -> x.weigh(0, -1, 1f));
        checks.refuses("term 12", INDEX, () -> x.weigh(0, 12, 1f));
        checks.answers("a refused weight changes nothing", 255, () -> x.quantised(0, 0));
        checks.does("a weight can be taken back", () -> x.weigh(0, 0, 0f));
        checks.answers("then it has no impact", 0, () -> x.quantised(0, 0));
    }

    private static void tokens() {
        HybridSearch x = Samples.withDocuments(2);
        checks.answers("token 0", 0, () -> x.token(0, 1f, 2f, 3f, 4f));
        checks.answers("token 1", 1, () -> x.token(0, 1048576f, -1048576f, 0f, -0f));
        checks.answers("another document's", 0, () -> x.token(1, 0f, 0f, 0f, 0f));
        checks.refuses("document -1", INDEX, () -> x.token(-1, 0f, 0f, 0f, 0f));
        checks.answers("token 2", 2, () -> x.token(0, 0f, 0f, 0f, 0f));
        checks.answers("token 3", 3, () -> x.token(0, 0f, 0f, 0f, 0f));
        checks.refuses("token 4", STATE, () -> x.token(0, 0f, 0f, 0f, 0f));
        checks.refuses("a wrong number comes first", ARGUMENT, () -> x.token(0, Float.NaN, 0f, 0f, 0f));
        checks.answers("the other goes on", 1, () -> x.token(1, 0f, 0f, 0f, 0f));
    }

    private static void centroids() {
        HybridSearch x = new HybridSearch();
        checks.answers("centroid 0", 0, () -> x.centroid(1f, 0f, 0f, 0f));
        checks.answers("centroid 1", 1, () -> x.centroid(1048576f, -1048576f, -0f, 0f));
        checks.answers("centroid 2", 2, () -> x.centroid(0f, 0f, 0f, 0f));
        checks.answers("centroid 3", 3, () -> x.centroid(0f, 0f, 0f, 0f));
        checks.refuses("centroid 4", STATE, () -> x.centroid(0f, 0f, 0f, 0f));
        checks.refuses("a wrong number comes first", ARGUMENT, () -> x.centroid(0f, 0f, 0f, Float.NaN));
    }

    private static void quantisedWeights() {
        HybridSearch x = Samples.withDocuments(3);
        checks.answers("no weights at all", 0, () -> x.quantised(0, 0));
        x.weigh(0, 0, Float.MIN_VALUE);
        checks.answers("the only one, however small", 255, () -> x.quantised(0, 0));
        x.weigh(1, 7, 3f);
        checks.answers("too small beside another", 0, () -> x.quantised(0, 0));
        x.weigh(0, 0, 1.5f);
        checks.answers("a half is rounded up", 128, () -> x.quantised(0, 0));
        x.weigh(0, 1, 1f);
        checks.answers("a third", 85, () -> x.quantised(0, 1));
        x.weigh(2, 11, 0.005f);
        checks.answers("just below a half", 0, () -> x.quantised(2, 11));
        x.weigh(2, 11, 0.006f);
        checks.answers("just above a half", 1, () -> x.quantised(2, 11));
        x.weigh(2, 11, -0f);
        checks.answers("of -0", 0, () -> x.quantised(2, 11));
        // In doubles, or with the 255 before the division, this would be just below a half.
        x.weigh(1, 7, 84669f);
        x.weigh(0, 1, 166.01764f);
        checks.answers("in floats, in the order that is written", 1, () -> x.quantised(0, 1));
        checks.refuses("document -1", INDEX, () -> x.quantised(-1, 0));
        checks.refuses("document 3", INDEX, () -> x.quantised(3, 0));
        checks.refuses("term -1", INDEX, () -> x.quantised(0, -1));
        checks.refuses("term 12", INDEX, () -> x.quantised(0, 12));
    }

    private static void everyChangeTakesTheLists() {
        takesTheLists("document", HybridSearch::document);
        takesTheLists("count", x -> x.count(0, 0));
        takesTheLists("weigh", x -> x.weigh(0, 0, 1f));
        takesTheLists("token", x -> x.token(0, 0f, 0f, 0f, 0f));
        takesTheLists("centroid", x -> x.centroid(0f, 0f, 0f, 0f));
        takesTheLists("clear", HybridSearch::clear);
    }

    private static void takesTheLists(String what, java.util.function.Consumer<HybridSearch> change) {
        HybridSearch x = Samples.fused();
        change.accept(x);
        checks.noLists("after " + what, x);
    }
}
