/** Objects that several tests begin with. */
final class Samples {
    /** Floats that will not do. */
    static final float[] WRONG = {Float.NaN, Float.POSITIVE_INFINITY, Float.NEGATIVE_INFINITY,
        Math.nextUp(1048576f), -Math.nextUp(1048576f), Float.MAX_VALUE, -Float.MAX_VALUE};

    private Samples() {
    }

    static HybridSearch withDocuments(int n) {
        HybridSearch x = new HybridSearch();
        for (int i = 0; i < n; i++) {
            x.document();
        }
        return x;
    }

    static void counts(HybridSearch x, int document, int term, int times) {
        for (int i = 0; i < times; i++) {
            x.count(document, term);
        }
    }

    /** Six documents; the scores for the query 5, 0 stand in SearchTest. */
    static HybridSearch ofWords() {
        HybridSearch x = withDocuments(6);
        counts(x, 0, 0, 3);
        counts(x, 1, 0, 1);
        counts(x, 1, 5, 1);
        counts(x, 2, 5, 2);
        counts(x, 4, 0, 1);
        counts(x, 4, 1, 4);
        counts(x, 5, 5, 1);
        return x;
    }

    /** Ten documents whose impacts are the weights themselves, as the greatest weight is 255. */
    static HybridSearch ofImpacts() {
        HybridSearch x = withDocuments(10);
        x.weigh(3, 11, 255f);
        x.weigh(0, 0, 100f);
        x.weigh(1, 1, 50f);
        x.weigh(2, 0, 100f);
        x.weigh(2, 1, 50f);
        x.weigh(4, 0, 120f);
        x.weigh(5, 1, 200f);
        x.weigh(7, 0, 10f);
        x.weigh(8, 0, 150f);
        x.weigh(9, 1, 30f);
        return x;
    }

    /** One list of each view: 0 has 1, 0, 2, 5, 4; 1 has 5, 2; 2 has 3, 5. */
    static HybridSearch ofAllViews() {
        HybridSearch x = ofWords();
        x.weigh(5, 2, 4f);
        x.weigh(2, 2, 2f);
        x.token(5, 1f, 0f, 0f, 0f);
        x.token(3, 3f, 0f, 0f, 0f);
        x.word(5);
        x.word(0);
        x.impact(2, 1);
        x.vector(1f, 0f, 0f, 0f);
        x.search(0, 0, 20, 1);
        x.search(1, 0, 20, 1);
        x.search(2, 0, 20, 1);
        return x;
    }

    /** The same with what fuse(0) makes of it: 5, 2, 1, 3, 0, 4. */
    static HybridSearch fused() {
        HybridSearch x = ofAllViews();
        x.fuse(0);
        return x;
    }

    /**
     * All that has a limit is at it, but for counts; there is a list of each view, of 5, 16 and 7 documents, and
     * what fuse(1) made of them.
     */
    static HybridSearch full() {
        HybridSearch x = withDocuments(16);
        for (int document = 0; document < 16; document++) {
            x.count(document, document % 4);
            x.weigh(document, document % 4, document + 1f);
            x.token(document, document % 3, document % 5, 1f, -1f);
        }
        x.count(7, 11);
        x.weigh(15, 11, 20f);
        for (int n = 0; n < 3; n++) {
            x.token(0, n, -n, n, 0f);
        }
        for (int n = 0; n < 4; n++) {
            x.centroid(n == 0 ? 1f : 0f, n == 1 ? 1f : 0f, n == 2 ? 1f : 0f, n == 3 ? 1f : 0f);
            x.word(n);
            x.impact(n, n == 3 ? 100 : n + 1);
        }
        for (int n = 0; n < 3; n++) {
            x.vector(n, 1f, 2f - n, 0f);
        }
        x.search(0, 1, 5, 2);
        x.search(1, 0, 20, 3);
        x.search(2, 2, 9, 1);
        x.fuse(1);
        return x;
    }

    /** Sixteen documents that match in each view: in view 0 all alike, in views 1 and 2 the last one best. */
    static HybridSearch allMatching() {
        HybridSearch x = withDocuments(16);
        for (int document = 0; document < 16; document++) {
            x.count(document, 0);
            x.weigh(document, 0, document + 1f);
            x.token(document, document + 1f, 0f, 0f, 0f);
        }
        x.centroid(1f, 0f, 0f, 0f);
        x.word(0);
        x.impact(0, 1);
        x.vector(1f, 0f, 0f, 0f);
        return x;
    }
}
