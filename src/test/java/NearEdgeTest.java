/** The boundaries of HOW 2, NEAR: centroids of vectors and tokens, and candidates; promises 11 and 14. */
public final class NearEdgeTest implements Kinds {
    private static final float MOST = 1048576f;

    private static final Checks checks = new Checks("NearEdgeTest");

    public static void main(String[] args) {
        withoutCentroids();
        withoutVectorsOrDocuments();
        oneCentroid();
        theFirstOfEqualOnes();
        zeroAndMinusZero();
        equalInFloats();
        allProductsBelowZero();
        theGreatestNumbers();
        theLastTokenAndTheLastVector();
        candidatesAloneAreScored();
        checks.end();
    }

    private static void near(String what, HybridSearch x, int... documents) {
        for (int shards = 1; shards <= 3; shards++) {
            int s = shards;
            checks.answers(what, documents.length, () -> x.search(2, 2, 20, s));
            checks.found(what, x, 2, documents);
            checks.worked(what, x, 2, documents.length, 0, 0);
        }
    }

    /** "IllegalStateException if NEAR is asked for without centroids." */
    private static void withoutCentroids() {
        HybridSearch x = Samples.withDocuments(1);
        x.token(0, 1f, 0f, 0f, 0f);
        x.vector(1f, 0f, 0f, 0f);
        for (int k : new int[] {0, 1, 20}) {
            checks.refuses("K " + k, STATE, () -> x.search(2, 2, k, 1));
        }
        checks.noList("that was refused", x, 2);
        checks.answers("all needs none", 1, () -> x.search(2, 0, 20, 1));
        checks.refuses("near after all", STATE, () -> x.search(2, 2, 20, 1));
        checks.found("the list of all stays", x, 2, 0);
        x.centroid(0f, 0f, 0f, 0f);
        near("with one", x, 0);
        x.clear();
        checks.answers("clear takes no centroids", 0, () -> x.search(2, 2, 20, 1));
    }

    private static void withoutVectorsOrDocuments() {
        HybridSearch x = new HybridSearch();
        x.centroid(1f, 0f, 0f, 0f);
        near("no documents, no vectors", x);
        x.vector(1f, 0f, 0f, 0f);
        near("no documents", x);
        x.document();
        near("no tokens", x);
        x.token(0, 1f, 0f, 0f, 0f);
        near("a token", x, 0);
        x.clear();
        near("no vectors", x);
    }

    /** All tokens have the same centroid then, however far it is. */
    private static void oneCentroid() {
        HybridSearch x = Samples.withDocuments(4);
        x.centroid(-1f, -1f, -1f, -1f);
        x.token(0, 1f, 1f, 1f, 1f);
        x.token(1, -1f, -1f, -1f, -1f);
        x.token(3, 2f, 2f, 2f, 2f);
        x.vector(1f, 0f, 0f, 0f);
        near("all with a token", x, 3, 0, 1);
    }

    /** "of equal ones .. the first". */
    private static void theFirstOfEqualOnes() {
        HybridSearch x = Samples.withDocuments(4);
        x.centroid(1f, 0f, 0f, 0f);
        x.centroid(0f, 1f, 0f, 0f);
        x.centroid(0f, 0f, 1f, 0f);
        x.centroid(0f, 0f, 0f, 1f);
        x.token(0, 1f, 0f, 0f, 0f);
        x.token(1, 0f, 1f, 0f, 0f);
        x.token(2, 0f, 0f, 1f, 0f);
        x.token(3, 0f, 0f, 0f, 1f);
        x.vector(0f, 2f, 2f, 2f);
        near("of three equal ones", x, 1);
        x.clear();
        x.vector(0f, 0f, 2f, 2f);
        near("of the last two", x, 2);
        x.clear();
        x.vector(2f, 2f, 2f, 2f);
        near("of all", x, 0);
        x.clear();
        x.vector(0f, 0f, 0f, 0f);
        near("of all, at 0", x, 0);
        x.token(3, 0f, 0f, 0f, 0f);
        near("a token of 0, too", x, 0, 3);
    }

    /** "of equal ones (0 and -0 too) the first". */
    private static void zeroAndMinusZero() {
        for (float zero : new float[] {0f, -0f}) {
            HybridSearch x = Samples.withDocuments(2);
            x.centroid(zero, zero, zero, zero);
            x.centroid(-zero, -zero, -zero, -zero);
            x.centroid(1f, 0f, 0f, 0f);
            x.token(0, 0f, 1f, 0f, 0f);
            x.token(1, 1f, 0f, 0f, 0f);
            x.vector(0f, -1f, 0f, 0f);
            near("the first of 0 and -0", x, 0);
            x.clear();
            x.vector(-0f, -0f, -0f, -0f);
            near("a query of -0", x, 0);
            x.clear();
            x.vector(-1f, 1f, 0f, 0f);
            near("below 0 for the third", x, 0);
        }
    }

    /** "All float arithmetic is of single operations on floats": 2 to the power of 40 and 1 is no float. */
    private static void equalInFloats() {
        HybridSearch x = Samples.withDocuments(2);
        x.centroid(MOST, 0f, 0f, 0f);
        x.centroid(MOST, 1f, 0f, 0f);
        x.token(0, 0f, -1f, 0f, 0f);
        x.token(1, 0f, 1f, 0f, 0f);
        x.vector(MOST, 1f, 0f, 0f);
        near("the first, as they are equal", x, 0);
    }

    private static void allProductsBelowZero() {
        HybridSearch x = Samples.withDocuments(3);
        x.centroid(-3f, 0f, 0f, 0f);
        x.centroid(-1f, 0f, 0f, 0f);
        x.centroid(-2f, 0f, 0f, 0f);
        x.token(0, 1f, 0f, 0f, 0f);
        x.token(1, -1f, 0f, 0f, 0f);
        x.token(2, 9f, 0f, 0f, 0f);
        x.vector(5f, 0f, 0f, 0f);
        near("the one that is least below 0", x, 2, 0);
    }

    private static void theGreatestNumbers() {
        HybridSearch x = Samples.withDocuments(3);
        x.centroid(-MOST, -MOST, -MOST, -MOST);
        x.centroid(MOST, MOST, MOST, MOST);
        x.token(0, MOST, MOST, MOST, MOST);
        x.token(1, -MOST, -MOST, -MOST, -MOST);
        x.token(2, -Float.MIN_VALUE, 0f, 0f, 0f);
        x.vector(MOST, MOST, MOST, MOST);
        near("the greatest", x, 0);
        checks.scored("the greatest", x, 2, 4398046511104.0);
        x.vector(-MOST, -MOST, -MOST, -MOST);
        near("both ways, so that all sums are 0", x, 0, 1, 2);
    }

    /** "documents with a token whose centroid is that of one of the query's vectors". */
    private static void theLastTokenAndTheLastVector() {
        HybridSearch x = Samples.withDocuments(2);
        x.centroid(1f, 0f, 0f, 0f);
        x.centroid(0f, 1f, 0f, 0f);
        x.centroid(0f, 0f, 1f, 0f);
        for (int n = 0; n < 3; n++) {
            x.token(0, 1f, 0f, 0f, 0f);
            x.token(1, 1f, 0f, 0f, 0f);
        }
        x.vector(0f, 0f, 1f, 0f);
        x.vector(0f, 0f, 2f, 0f);
        near("none of them", x);
        x.vector(0f, 1f, 0f, 0f);
        near("none of them for the third", x);
        x.token(1, 0f, 4f, 0f, 0f);
        near("the fourth token for the third vector", x, 1);
        checks.scored("with all tokens", x, 2, 4.0);
    }

    /** "Candidates alone are scored": by all vectors and all tokens, also by those of other centroids. */
    private static void candidatesAloneAreScored() {
        HybridSearch x = Samples.withDocuments(16);
        x.centroid(1f, 0f, 0f, 0f);
        x.centroid(0f, 1f, 0f, 0f);
        for (int document = 0; document < 16; document++) {
            x.token(document, document % 2 == 0 ? 2f : 1f, document % 2 == 0 ? 1f : 2f, 0f, 0f);
        }
        x.vector(3f, 2f, 0f, 0f);
        near("the even ones", x, 0, 2, 4, 6, 8, 10, 12, 14);
        for (int k : new int[] {0, 1, 7, 8, 9}) {
            checks.answers("K " + k, Math.min(k, 8), () -> x.search(2, 2, k, 1));
            checks.worked("K " + k, x, 2, 8, 0, 0);
        }
        x.token(15, 100f, 0f, 0f, 0f);
        x.token(15, 0f, 200f, 0f, 0f);
        near("with another's token", x, 15, 0, 2, 4, 6, 8, 10, 12, 14);
        checks.scored("with another's token", x, 2, 400.0, 8.0);
    }
}
