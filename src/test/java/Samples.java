/** Objects that several tests begin with. */
final class Samples {
    private Samples() {
    }

    static HybridSearch withDocuments(int n) {
        HybridSearch x = new HybridSearch();
        for (int i = 0; i < n; i++) {
            x.document();
        }
        return x;
    }

    static void counts(HybridSearch x, int document, int term, int times) {
        for (int i = 0; i < times; i++) {
            x.count(document, term);
        }
    }

    /** Six documents; the scores for the query 5, 0 stand in SearchTest. */
    static HybridSearch ofWords() {
        HybridSearch x = withDocuments(6);
        counts(x, 0, 0, 3);
        counts(x, 1, 0, 1);
        counts(x, 1, 5, 1);
        counts(x, 2, 5, 2);
        counts(x, 4, 0, 1);
        counts(x, 4, 1, 4);
        counts(x, 5, 5, 1);
        return x;
    }

    /** Ten documents whose impacts are the weights themselves, as the greatest weight is 255. */
    static HybridSearch ofImpacts() {
        HybridSearch x = withDocuments(10);
        x.weigh(3, 11, 255f);
        x.weigh(0, 0, 100f);
        x.weigh(1, 1, 50f);
        x.weigh(2, 0, 100f);
        x.weigh(2, 1, 50f);
        x.weigh(4, 0, 120f);
        x.weigh(5, 1, 200f);
        x.weigh(7, 0, 10f);
        x.weigh(8, 0, 150f);
        x.weigh(9, 1, 30f);
        return x;
    }

    /** One list of each view: 0 has 1, 0, 2, 5, 4; 1 has 5, 2; 2 has 3, 5. */
    static HybridSearch ofAllViews() {
        HybridSearch x = ofWords();
        x.weigh(5, 2, 4f);
        x.weigh(2, 2, 2f);
        x.token(5, 1f, 0f, 0f, 0f);
        x.token(3, 3f, 0f, 0f, 0f);
        x.word(5);
        x.word(0);
        x.impact(2, 1);
        x.vector(1f, 0f, 0f, 0f);
        x.search(0, 0, 20, 1);
        x.search(1, 0, 20, 1);
        x.search(2, 0, 20, 1);
        return x;
    }
}
