import java.util.function.Consumer;

/** The boundaries of promises 15 to 17, and of 'LISTS PUT TOGETHER'; refusals: RefusedTest. */
public final class FuseEdgeTest implements Kinds {
    private static final float MOST = 1048576f;

    private static final Checks checks = new Checks("FuseEdgeTest");

    public static void main(String[] args) {
        everyWay();
        emptyListsAlone();
        anEmptyListBesideOthers();
        aListOfOneDocument();
        aListOfOneScore();
        leastAndGreatest();
        aListThatWasCut();
        scoresBelowZero();
        scoresFarAndNear();
        theLastRank();
        viewsInTheirOrder();
        equalRatingsByNumber();
        timesTheNumberOfLists();
        allDocuments();
        theLatestFuse();
        whatTakesIt();
        whatLeavesIt();
        checks.end();
    }

    private static void made(String what, HybridSearch x, int way, int[] documents, double... ratings) {
        checks.answers(what + ", way " + way, documents.length, () -> x.fuse(way));
        checks.fused(what + ", way " + way, x, documents);
        checks.rated(what + ", way " + way, x, ratings);
    }

    private static int[] of(int... documents) {
        return documents;
    }

    /** Documents with these products with the query's vector, in one list of view 2. */
    private static HybridSearch ofProducts(float... products) {
        HybridSearch x = Samples.withDocuments(products.length);
        for (int document = 0; document < products.length; document++) {
            x.token(document, products[document], 0f, 0f, 0f);
        }
        x.vector(1f, 0f, 0f, 0f);
        x.search(2, 0, 20, 1);
        return x;
    }

    /** "IllegalArgumentException if there is no such way; IllegalStateException if there is no list." */
    private static void everyWay() {
        HybridSearch none = new HybridSearch();
        HybridSearch x = ofProducts(1f);
        for (int way : new int[] {Integer.MIN_VALUE, -1, 3, Integer.MAX_VALUE}) {
            checks.refuses("way " + way, ARGUMENT, () -> x.fuse(way));
            checks.refuses("way " + way + ", no list", ARGUMENT, () -> none.fuse(way));
        }
        for (int i = 0; i < 3; i++) {
            int way = i;
            checks.answers("way " + way, 1, () -> x.fuse(way));
            checks.refuses("way " + way + ", no list", STATE, () -> none.fuse(way));
        }
        checks.nothingFused("without a list", none);
    }

    private static void emptyListsAlone() {
        for (int view = 0; view < 3; view++) {
            HybridSearch x = Samples.withDocuments(2);
            x.search(view, 0, 20, 1);
            for (int way = 0; way < 3; way++) {
                made("an empty list of view " + view, x, way, of());
            }
        }
        HybridSearch x = Samples.allMatching();
        for (int view = 0; view < 3; view++) {
            x.search(view, 0, 0, 1);
        }
        for (int way = 0; way < 3; way++) {
            made("three lists of no places", x, way, of());
        }
    }

    /** "for each list in which it is": an empty one adds nothing and does not count. */
    private static void anEmptyListBesideOthers() {
        HybridSearch x = ofProducts(2f, 6f, 5f);
        x.search(0, 0, 20, 1);
        x.search(1, 1, 20, 1);
        made("beside two empty lists", x, 0, of(1, 2, 0), 1.0 / 61, 1.0 / 62, 1.0 / 63);
        made("beside two empty lists", x, 1, of(1, 2, 0), 1.0, 0.75, 0.0);
        made("beside two empty lists", x, 2, of(1, 2, 0), 1.0, 0.75, 0.0);
    }

    /** "1.0 if these are equal". */
    private static void aListOfOneDocument() {
        for (float product : new float[] {-MOST, -1f, 0f, -0f, Float.MIN_VALUE, MOST}) {
            HybridSearch x = ofProducts(product);
            made("one document", x, 0, of(0), 1.0 / 61);
            made("one document", x, 1, of(0), 1.0);
            made("one document", x, 2, of(0), 1.0);
        }
        HybridSearch x = Samples.allMatching();
        for (int view = 0; view < 3; view++) {
            x.search(view, 0, 1, 1);
        }
        made("the first of each view", x, 0, of(15, 0), 0 + 1.0 / 61 + 1.0 / 61, 1.0 / 61);
        made("the first of each view", x, 1, of(15, 0), 2.0, 1.0);
        made("the first of each view", x, 2, of(15, 0), 4.0, 1.0);
    }

    private static void aListOfOneScore() {
        HybridSearch x = ofProducts(3f, 3f, 3f);
        made("one score", x, 0, of(0, 1, 2), 1.0 / 61, 1.0 / 62, 1.0 / 63);
        made("one score", x, 1, of(0, 1, 2), 1.0, 1.0, 1.0);
        made("one score", x, 2, of(0, 1, 2), 1.0, 1.0, 1.0);
        HybridSearch zeros = ofProducts(0f, -0f, 0f);
        made("0 and -0 are one score", zeros, 1, of(0, 1, 2), 1.0, 1.0, 1.0);
    }

    /** "(score - least) / (greatest - least)": the last one of a list gets 0, and is in it all the same. */
    private static void leastAndGreatest() {
        HybridSearch x = ofProducts(1f, 2f);
        made("two scores", x, 1, of(1, 0), 1.0, 0.0);
        x = ofProducts(1f, 2f, 1f, 2f);
        made("two scores, twice", x, 1, of(1, 3, 0, 2), 1.0, 1.0, 0.0, 0.0);
        x = ofProducts(0f, 3f, 1f);
        made("a third", x, 1, of(1, 2, 0), 1.0, 1.0 / 3.0, 0.0);
    }

    /** Least and greatest are those "of the scores in it": of the list, not of all that match. */
    private static void aListThatWasCut() {
        HybridSearch x = ofProducts(0f, 8f, 6f, 4f);
        made("the whole list", x, 1, of(1, 2, 3, 0), 1.0, 0.75, 0.5, 0.0);
        x.search(2, 0, 3, 1);
        made("without the last", x, 1, of(1, 2, 3), 1.0, 0.5, 0.0);
        x.search(2, 0, 1, 1);
        made("the first alone", x, 1, of(1), 1.0);
    }

    private static void scoresBelowZero() {
        HybridSearch x = ofProducts(-5f, -1f, -2f);
        made("all below 0", x, 1, of(1, 2, 0), 1.0, 0.75, 0.0);
        x = ofProducts(-1f, 3f, 0f);
        made("0 between", x, 1, of(1, 2, 0), 1.0, 0.25, 0.0);
    }

    private static void scoresFarAndNear() {
        HybridSearch x = ofProducts(-MOST, MOST, 0f);
        made("the farthest", x, 1, of(1, 2, 0), 1.0, 0.5, 0.0);
        x = ofProducts(0f, Float.MIN_VALUE, 2 * Float.MIN_VALUE);
        made("the nearest", x, 1, of(2, 1, 0), 1.0, 0.5, 0.0);
        x = ofProducts(MOST, Math.nextDown(MOST));
        made("next to each other", x, 1, of(0, 1), 1.0, 0.0);
    }

    /** "1.0 / (60 + r) .. r its rank there, 1 for the first". */
    private static void theLastRank() {
        HybridSearch x = Samples.allMatching();
        x.search(2, 2, 20, 3);
        checks.answers("ranks", 16, () -> x.fuse(0));
        for (int i = 0; i < 16; i++) {
            int place = i;
            checks.answers("fused " + i, 15 - i, () -> x.fused(place));
            checks.answersDouble("rating " + i, 1.0 / (61 + i), () -> x.rating(place));
        }
        checks.answersDouble("the last", 1.0 / 76, () -> x.rating(15));
    }

    /** "(that there is one of, in the order of views)": whichever was made first; another order gives another sum. */
    private static void viewsInTheirOrder() {
        double[] due = {0.04722835723395652, 0.04722835723395651};
        for (int i = 0; i < 2; i++) {
            HybridSearch x = Samples.withDocuments(8);
            boolean firstOfWords = i == 0;
            for (int document = 0; document < 8; document++) {
                if (firstOfWords) {
                    x.token(document, 0f, 0f, 0f, 0f);
                } else {
                    x.count(document, 0);
                }
            }
            if (firstOfWords) {
                x.count(7, 0);
            } else {
                x.token(7, 0f, 0f, 0f, 0f);
            }
            x.weigh(0, 0, 2f);
            x.weigh(7, 0, 1f);
            x.word(0);
            x.impact(0, 1);
            x.vector(0f, 0f, 0f, 0f);
            for (int view = 2; view >= 0; view--) {
                x.search(view, 0, 20, 1);
            }
            checks.answers("ranks", 8, () -> x.fuse(0));
            checks.answers("the one of all lists", 7, () -> x.fused(0));
            checks.answersDouble("ranks 1, 2, 8, or 8, 2, 1", due[i], () -> x.rating(0));
        }
    }

    /** "By score, the greatest first, then by number." */
    private static void equalRatingsByNumber() {
        HybridSearch x = Samples.withDocuments(16);
        x.count(15, 0);
        x.weigh(9, 0, 1f);
        x.token(4, 1f, 0f, 0f, 0f);
        x.word(0);
        x.impact(0, 1);
        x.vector(1f, 0f, 0f, 0f);
        for (int view = 0; view < 3; view++) {
            x.search(view, 0, 20, 3);
        }
        made("three lists of one", x, 0, of(4, 9, 15), 1.0 / 61, 1.0 / 61, 1.0 / 61);
        made("three lists of one", x, 1, of(4, 9, 15), 1.0, 1.0, 1.0);
        made("three lists of one", x, 2, of(4, 9, 15), 1.0, 1.0, 1.0);
    }

    /** "that, times the number of lists in which it is": 1, 2 or 3 of them, also those in which it gets 0. */
    private static void timesTheNumberOfLists() {
        HybridSearch x = Samples.withDocuments(4);
        x.weigh(3, 11, 255f);
        x.count(0, 0);
        x.count(1, 0);
        x.weigh(1, 0, 10f);
        x.weigh(2, 0, 50f);
        x.token(1, 1f, 0f, 0f, 0f);
        x.token(2, 3f, 0f, 0f, 0f);
        x.token(3, 2f, 0f, 0f, 0f);
        x.word(0);
        x.impact(0, 1);
        x.vector(1f, 0f, 0f, 0f);
        x.search(0, 0, 20, 1);
        made("one list", x, 2, of(0, 1), 1.0, 1.0);
        x.search(1, 0, 20, 1);
        made("two lists", x, 2, of(1, 0, 2), 2.0, 1.0, 1.0);
        x.search(2, 0, 20, 1);
        made("three lists, sum", x, 1, of(2, 0, 1, 3), 2.0, 1.0, 1.0, 0.5);
        made("three lists, many", x, 2, of(2, 1, 0, 3), 4.0, 3.0, 1.0, 0.5);
    }

    private static void allDocuments() {
        HybridSearch x = Samples.allMatching();
        for (int view = 0; view < 3; view++) {
            x.search(view, 0, 20, 1);
        }
        int[] down = {15, 14, 13, 12, 11, 10, 9, 8, 7, 6, 5, 4, 3, 2, 1, 0};
        for (int way = 1; way < 3; way++) {
            made("sixteen in three lists", x, way, down, way == 1 ? 3.0 : 9.0);
            checks.answersDouble("the last of them", way == 1 ? 1.0 : 3.0, () -> x.rating(15));
        }
    }

    /** "what the latest fuse() made". */
    private static void theLatestFuse() {
        HybridSearch x = Samples.fused();
        checks.fused("ranks", x, 5, 2, 1, 3, 0, 4);
        checks.answers("sum", 6, () -> x.fuse(1));
        checks.fused("sum", x, 5, 1, 3, 0, 2, 4);
        checks.refuses("no such way", ARGUMENT, () -> x.fuse(3));
        checks.fused("sum stays", x, 5, 1, 3, 0, 2, 4);
        x.search(0, 0, 0, 1);
        checks.nothingFused("after a list was made", x);
        checks.answers("with an empty list", 3, () -> x.fuse(0));
        checks.fused("with an empty list", x, 5, 3, 2);
    }

    /** "(also if the collection or the query was changed, or a list was made, since)". */
    private static void whatTakesIt() {
        takes("document", HybridSearch::document);
        takes("count", x -> x.count(0, 0));
        takes("weigh", x -> x.weigh(0, 0, 1f));
        takes("the same weight", x -> x.weigh(5, 2, 4f));
        takes("token", x -> x.token(0, 0f, 0f, 0f, 0f));
        takes("centroid", x -> x.centroid(0f, 0f, 0f, 0f));
        takes("clear", HybridSearch::clear);
        takes("word", x -> x.word(11));
        takes("impact", x -> x.impact(11, 1));
        takes("vector", x -> x.vector(0f, 0f, 0f, 0f));
        for (int view = 0; view < 3; view++) {
            int v = view;
            takes("search", x -> x.search(v, 0, 3, 2));
            takes("the same search", x -> x.search(v, 0, 20, 1));
            takes("a search for nothing", x -> x.search(v, 0, 0, 1));
        }
    }

    private static void takes(String what, Consumer<HybridSearch> call) {
        HybridSearch x = Samples.fused();
        call.accept(x);
        checks.nothingFused("after " + what, x);
    }

    private static void whatLeavesIt() {
        HybridSearch x = Samples.fused();
        x.hit(0, 0);
        x.score(1, 0);
        x.work(2, 0);
        x.log(2);
        x.quantised(0, 0);
        x.fused(5);
        x.rating(5);
        checks.refuses("a hit that is not there", INDEX, () -> x.hit(0, 5));
        checks.refuses("a search that is refused", STATE, () -> x.search(2, 2, 1, 1));
        checks.refuses("a word that is refused", ARGUMENT, () -> x.word(5));
        checks.refuses("a weight that is refused", ARGUMENT, () -> x.weigh(0, 0, -1f));
        checks.fused("after all that", x, 5, 2, 1, 3, 0, 4);
    }
}
