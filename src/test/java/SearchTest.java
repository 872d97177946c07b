/** Promises 11 to 14: search, hit, score, work. */
public final class SearchTest implements Kinds {
    private static final Checks checks = new Checks("SearchTest");

    public static void main(String[] args) {
        wordsAll();
        wordsPruned();
        impactsAll();
        impactsPruned();
        equalScores();
        prunedWithoutAQuery();
        vectorsAll();
        vectorsInFloats();
        vectorsNear();
        nearestOfEqualCentroids();
        aNewListTakesTheOldOne();
        checks.end();
    }

    private static void wordsAll() {
        HybridSearch x = Samples.ofWords();
        x.word(5);
        x.word(0);
        double[] due = {1.4313364161743274, 1.006294891574337, 0.9741527943004636, 0.888969029776432,
            0.4515719672896227};
        for (int shards = 1; shards <= 3; shards++) {
            int s = shards;
            checks.answers("all words", 5, () -> x.search(0, 0, 20, s));
            checks.found("all words", x, 0, 1, 0, 2, 5, 4);
            checks.scored("all words", x, 0, due);
            checks.worked("all words", x, 0, 5, 0, 0);
            checks.answers("the first two", 2, () -> x.search(0, 0, 2, s));
            checks.found("the first two", x, 0, 1, 0);
            checks.worked("the first two", x, 0, 5, 0, 0);
            checks.answers("none of them", 0, () -> x.search(0, 0, 0, s));
            checks.found("none of them", x, 0);
            checks.worked("none of them", x, 0, 5, 0, 0);
        }
    }

    private static void wordsPruned() {
        HybridSearch x = Samples.ofWords();
        x.word(5);
        x.word(0);
        checks.answers("words pruned", 1, () -> x.search(0, 1, 1, 1));
        checks.found("words pruned", x, 0, 1);
        checks.scored("words pruned", x, 0, 1.4313364161743274);
        checks.worked("words pruned", x, 0, 2, 1, 1);
        checks.answers("words pruned, all fit", 5, () -> x.search(0, 1, 20, 1));
        checks.worked("words pruned, all fit", x, 0, 5, 0, 0);
        checks.answers("words pruned, none", 0, () -> x.search(0, 1, 0, 1));
        checks.worked("words pruned, none", x, 0, 0, 2, 0);
    }

    private static void impactsAll() {
        HybridSearch x = Samples.ofImpacts();
        x.impact(0, 1);
        x.impact(1, 1);
        checks.answers("all impacts", 8, () -> x.search(1, 0, 20, 2));
        checks.found("all impacts", x, 1, 5, 2, 8, 4, 0, 1, 9, 7);
        checks.scored("all impacts", x, 1, 200, 150, 150, 120, 100, 50, 30, 10);
        checks.answers("none of them", 0, () -> x.search(1, 0, 0, 1));
        checks.worked("none of them", x, 1, 8, 0, 0);
        x.weigh(6, 2, 0.4f);
        x.clear();
        x.impact(2, 100);
        checks.answers("an impact of 0 matches nothing", 0, () -> x.search(1, 0, 20, 1));
        checks.worked("an impact of 0 matches nothing", x, 1, 0, 0, 0);
        x.clear();
        x.impact(1, 100);
        x.impact(0, 3);
        checks.answers("weights of the query", 2, () -> x.search(1, 0, 2, 1));
        checks.found("weights of the query", x, 1, 5, 2);
        checks.scored("weights of the query", x, 1, 20000, 5300);
    }

    private static void impactsPruned() {
        HybridSearch x = Samples.ofImpacts();
        x.impact(0, 1);
        x.impact(1, 1);
        checks.answers("one shard", 1, () -> x.search(1, 1, 1, 1));
        checks.found("one shard", x, 1, 5);
        checks.worked("one shard", x, 1, 3, 1, 3);
        checks.answers("three shards", 2, () -> x.search(1, 1, 2, 3));
        checks.found("three shards", x, 1, 5, 2);
        checks.scored("three shards", x, 1, 200, 150);
        checks.worked("three shards", x, 1, 7, 0, 1);
        checks.answers("none, one shard", 0, () -> x.search(1, 1, 0, 1));
        checks.worked("none, one shard", x, 1, 0, 3, 0);
        checks.answers("none, three shards", 0, () -> x.search(1, 1, 0, 3));
        checks.worked("none, three shards", x, 1, 0, 8, 0);
    }

    private static void equalScores() {
        HybridSearch x = Samples.withDocuments(16);
        for (int document = 15; document >= 0; document--) {
            x.count(document, 0);
            x.weigh(document, 0, 2f);
        }
        x.word(0);
        x.impact(0, 7);
        for (int view = 0; view < 2; view++) {
            for (int shards = 1; shards <= 3; shards++) {
                int v = view;
                int s = shards;
                checks.answers("equal ones", 16, () -> x.search(v, 0, 20, s));
                checks.found("equal ones", x, v, 0, 1, 2, 3, 4, 5, 6, 7, 8, 9, 10, 11, 12, 13, 14, 15);
                checks.answers("equal ones pruned", 3, () -> x.search(v, 1, 3, s));
                checks.found("equal ones pruned", x, v, 0, 1, 2);
            }
            int v = view;
            x.search(v, 1, 3, 1);
            checks.worked("a bound that is equal is not above", x, v, 3, 3, 1);
        }
    }

    private static void prunedWithoutAQuery() {
        HybridSearch x = Samples.withDocuments(5);
        for (int view = 0; view < 2; view++) {
            int v = view;
            checks.answers("no terms", 0, () -> x.search(v, 1, 1, 1));
            checks.worked("no terms", x, v, 0, 0, 0);
            checks.answers("no terms, no places", 0, () -> x.search(v, 1, 0, 1));
            checks.worked("no terms, no places", x, v, 0, 2, 0);
            // Of the block of document 4, only shard 1 of three has a document.
            checks.answers("no terms, no places, three shards", 0, () -> x.search(v, 1, 0, 3));
            checks.worked("no terms, no places, three shards", x, v, 0, 4, 0);
        }
        HybridSearch none = new HybridSearch();
        checks.answers("no documents", 0, () -> none.search(0, 1, 0, 3));
        checks.worked("no documents", none, 0, 0, 0, 0);
    }

    private static void vectorsAll() {
        HybridSearch x = Samples.withDocuments(4);
        x.token(0, 1f, 0f, -0.5f, 2f);
        x.token(1, 0.5f, 0.5f, 0.5f, 0.5f);
        x.token(1, -1f, 1f, 0f, 0.125f);
        x.token(3, -4f, 0f, 0f, 0f);
        checks.answers("no vectors", 0, () -> x.search(2, 0, 20, 1));
        checks.worked("no vectors", x, 2, 0, 0, 0);
        x.vector(1f, 1f, 1f, 1f);
        x.vector(-1f, 2f, 0f, 0f);
        for (int shards = 1; shards <= 3; shards++) {
            int s = shards;
            checks.answers("all vectors", 3, () -> x.search(2, 0, 20, s));
            checks.found("all vectors", x, 2, 1, 0, 3);
            checks.scored("all vectors", x, 2, 5.0, 1.5, 0.0);
            checks.worked("all vectors", x, 2, 3, 0, 0);
            checks.answers("the first", 1, () -> x.search(2, 0, 1, s));
            checks.found("the first", x, 2, 1);
        }
        HybridSearch below = Samples.withDocuments(2);
        below.token(0, -2f, 0f, 0f, 0f);
        below.token(0, -3f, 0f, 0f, 0f);
        below.token(1, -1f, 0f, 0f, 0f);
        below.vector(1f, 0f, 0f, 0f);
        checks.answers("scores below 0", 2, () -> below.search(2, 0, 20, 1));
        checks.found("scores below 0", below, 2, 1, 0);
        checks.scored("scores below 0", below, 2, -1.0, -2.0);
    }

    private static void vectorsInFloats() {
        HybridSearch x = Samples.withDocuments(2);
        x.token(0, 1048576f, 1f, -1048576f, 0f);
        x.token(1, 1048576f, -1048576f, 1f, 0f);
        x.vector(1048576f, 1f, 1048576f, 1f);
        checks.answers("lost in a sum of floats", 2, () -> x.search(2, 0, 20, 1));
        // A float of 2^40 does not take in the 1 that document 0 adds to it; in doubles it would.
        checks.found("lost in a sum of floats", x, 2, 1, 0);
        checks.scored("lost in a sum of floats", x, 2, 1099511627776.0, 0.0);
        HybridSearch y = Samples.withDocuments(1);
        y.token(0, 1048576f, 0f, 0f, 1f);
        y.vector(1048576f, 0f, 0f, 0f);
        y.vector(0f, 0f, 0f, 1f);
        y.search(2, 0, 1, 1);
        checks.scored("the vectors' products, too", y, 2, 1099511627776.0);
        HybridSearch z = Samples.withDocuments(1);
        z.token(0, -0f, -0f, -0f, -0f);
        z.vector(1f, 1f, 1f, 1f);
        z.search(2, 0, 1, 1);
        checks.scored("0 and -0 are 0", z, 2, 0.0);
    }

    private static void vectorsNear() {
        HybridSearch x = Samples.withDocuments(4);
        x.centroid(1f, 0f, 0f, 0f);
        x.centroid(0f, 1f, 0f, 0f);
        x.centroid(0f, 0f, 1f, 0f);
        x.token(0, 5f, 0f, 0f, 0f);
        x.token(1, 0f, 5f, 0f, 0f);
        x.token(1, 0f, 0f, 5f, 0f);
        x.token(3, 9f, 8f, 0f, 0f);
        checks.answers("near without vectors", 0, () -> x.search(2, 2, 20, 1));
        checks.worked("near without vectors", x, 2, 0, 0, 0);
        x.vector(1f, 2f, 0f, 0f);
        for (int shards = 1; shards <= 3; shards++) {
            int s = shards;
            checks.answers("one centroid", 1, () -> x.search(2, 2, 20, s));
            checks.found("one centroid", x, 2, 1);
            checks.scored("one centroid", x, 2, 10.0);
            checks.worked("one centroid", x, 2, 1, 0, 0);
        }
        x.vector(1f, 0f, 0f, 0f);
        checks.answers("two centroids", 3, () -> x.search(2, 2, 20, 3));
        checks.found("two centroids", x, 2, 3, 0, 1);
        checks.scored("two centroids", x, 2, 34.0, 10.0, 10.0);
        checks.answers("the first of them", 1, () -> x.search(2, 2, 1, 1));
        checks.worked("the first of them", x, 2, 3, 0, 0);
    }

    private static void nearestOfEqualCentroids() {
        HybridSearch x = Samples.withDocuments(2);
        x.centroid(0f, 1f, 0f, 0f);
        x.centroid(1f, 0f, 0f, 0f);
        x.centroid(1f, 0f, 0f, 0f);
        x.token(0, 3f, 3f, 0f, 0f);
        x.token(1, 3f, 2f, 0f, 0f);
        x.vector(1f, 0f, 0f, 0f);
        checks.answers("the first of equal ones", 1, () -> x.search(2, 2, 20, 1));
        checks.found("the first of equal ones", x, 2, 1);
        HybridSearch y = Samples.withDocuments(1);
        y.centroid(-1f, 0f, 0f, 0f);
        y.centroid(-2f, 0f, 0f, 0f);
        y.token(0, 1f, 0f, 0f, 0f);
        y.vector(2f, 0f, 0f, 0f);
        checks.answers("products below 0 have a greatest one", 1, () -> y.search(2, 2, 20, 1));
    }

    private static void aNewListTakesTheOldOne() {
        HybridSearch x = Samples.fused();
        checks.answers("a shorter list", 1, () -> x.search(0, 0, 1, 1));
        checks.found("a shorter list", x, 0, 1);
        checks.found("another view's stays", x, 1, 5, 2);
        checks.found("another view's stays", x, 2, 3, 5);
        checks.refuses("fused is gone", INDEX, () -> x.fused(0));
        checks.refuses("rating is gone", INDEX, () -> x.rating(0));
    }
}
