/** Promises 15 to 17: fuse, fused, rating. */
public final class FuseTest implements Kinds {
    private static final Checks checks = new Checks("FuseTest");

    public static void main(String[] args) {
        ranks();
        sum();
        many();
        someViewsAlone();
        allScoresEqual();
        checks.end();
    }

    private static void made(String what, HybridSearch x, int[] documents, double[] ratings) {
        checks.fused(what, x, documents);
        checks.rated(what, x, ratings);
    }

    private static void ranks() {
        HybridSearch x = Samples.ofAllViews();
        checks.answers("ranks", 6, () -> x.fuse(0));
        made("ranks", x, new int[] {5, 2, 1, 3, 0, 4}, new double[] {
            0 + 1.0 / 64 + 1.0 / 61 + 1.0 / 62, 0 + 1.0 / 63 + 1.0 / 62, 1.0 / 61, 1.0 / 61, 1.0 / 62, 1.0 / 65});
    }

    private static double share(double score) {
        double least = 0.4515719672896227;
        return (score - least) / (1.4313364161743274 - least);
    }

    private static void sum() {
        HybridSearch x = Samples.ofAllViews();
        checks.answers("sum", 6, () -> x.fuse(1));
        made("sum", x, new int[] {5, 1, 3, 0, 2, 4}, new double[] {
            0 + share(0.888969029776432) + 1.0 + 0.0, 1.0, 1.0, share(1.006294891574337),
            0 + share(0.9741527943004636) + 0.0, 0.0});
    }

    private static void many() {
        HybridSearch x = Samples.ofAllViews();
        checks.answers("many", 6, () -> x.fuse(2));
        made("many", x, new int[] {5, 2, 1, 3, 0, 4}, new double[] {
            (0 + share(0.888969029776432) + 1.0 + 0.0) * 3, share(0.9741527943004636) * 2, 1.0, 1.0,
            share(1.006294891574337), 0.0});
        checks.answers("another way", 6, () -> x.fuse(0));
        checks.answersDouble("is the latest then", 1.0 / 65, () -> x.rating(5));
    }

    private static void someViewsAlone() {
        HybridSearch x = Samples.ofAllViews();
        x.word(3);
        checks.answers("without view 0", 3, () -> x.fuse(0));
        made("without view 0", x, new int[] {5, 3, 2}, new double[] {0 + 1.0 / 61 + 1.0 / 62, 1.0 / 61, 1.0 / 62});
        x.vector(0f, 0f, 0f, 0f);
        checks.answers("view 1 alone", 2, () -> x.fuse(2));
        made("view 1 alone", x, new int[] {5, 2}, new double[] {1.0, 0.0});
        x.impact(3, 1);
        checks.refuses("none is left", STATE, () -> x.fuse(2));
    }

    private static void allScoresEqual() {
        HybridSearch x = Samples.withDocuments(16);
        for (int document = 0; document < 16; document++) {
            x.weigh(document, 0, 1f);
            x.token(document, 0f, 0f, 0f, 0f);
        }
        x.impact(0, 1);
        x.vector(1f, 1f, 1f, 1f);
        x.search(1, 0, 20, 3);
        x.search(2, 0, 20, 2);
        checks.answers("sum of equal ones", 16, () -> x.fuse(1));
        int[] documents = new int[16];
        double[] ratings = new double[16];
        for (int document = 0; document < 16; document++) {
            documents[document] = document;
            ratings[document] = 2.0;
        }
        made("sum of equal ones", x, documents, ratings);
    }
}
