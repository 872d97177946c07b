import java.util.Arrays;

/** The boundaries of promises 11 to 14, and of what 'Terms' says of scores and lists; refusals: RefusedTest. */
public final class ListEdgeTest implements Kinds {
    private static final float MOST = 1048576f;
    private static final int[] UP = {0, 1, 2, 3, 4, 5, 6, 7, 8, 9, 10, 11, 12, 13, 14, 15};
    private static final int[] DOWN = {15, 14, 13, 12, 11, 10, 9, 8, 7, 6, 5, 4, 3, 2, 1, 0};

    private static final Checks checks = new Checks("ListEdgeTest");

    public static void main(String[] args) {
        everyViewAndHow();
        everyNumberOfShards();
        theFirstKOfThem();
        noMoreThanMatch();
        fewerDocumentsThanShards();
        noPlacesAtAll();
        theLatestListAlone();
        whatWorkTells();
        whichRefusalComesFirst();
        oneDocumentOneWord();
        aWordThatAllHave();
        aWordThatOneHas();
        aWordThatNoneHas();
        lengthsOfAllTerms();
        wordsInTheirOrder();
        theGreatestSumOfImpacts();
        anImpactOfZero();
        theGreatestProducts();
        allProductsBelowZero();
        allPlacesOfAVector();
        placesInTheirOrder();
        vectorsInTheirOrder();
        zeroAndMinusZero();
        tokensWithoutVectors();
        equalScoresByNumber();
        checks.end();
    }

    /** "IllegalArgumentException if there is no such view, it is not made how". */
    private static void everyViewAndHow() {
        HybridSearch x = Samples.allMatching();
        String[] due = {"-----", "-++--", "-++--", "-+-+-", "-----"};
        for (int view = -1; view <= 3; view++) {
            for (int how = -1; how <= 3; how++) {
                int v = view;
                int h = how;
                String call = "search view " + v + ", how " + h;
                if (due[view + 1].charAt(how + 1) == '+') {
                    checks.answers(call, 16, () -> x.search(v, h, 20, 1));
                } else {
                    checks.refuses(call, ARGUMENT, () -> x.search(v, h, 20, 1));
                }
            }
        }
    }

    /** "or there are not 1 .. 3 shards". */
    private static void everyNumberOfShards() {
        for (int view = 0; view < 3; view++) {
            HybridSearch x = Samples.allMatching();
            int v = view;
            for (int how : new int[] {0, view == 2 ? 2 : 1}) {
                for (int shards : new int[] {Integer.MIN_VALUE, -3, -1, 0, 4, 5, Integer.MAX_VALUE}) {
                    checks.refuses("shards " + shards, ARGUMENT, () -> x.search(v, how, 20, shards));
                }
                for (int shards = 1; shards <= 3; shards++) {
                    int s = shards;
                    checks.answers("shards " + s, 16, () -> x.search(v, how, 20, s));
                    checks.found("shards " + s, x, v, view == 0 ? UP : DOWN);
                }
            }
        }
    }

    /** "the first K of them", "K is not 0 .. 20". */
    private static void theFirstKOfThem() {
        for (int view = 0; view < 3; view++) {
            int[] all = view == 0 ? UP : DOWN;
            for (int shards = 1; shards <= 3; shards++) {
                firstK(view, 0, shards, all);
                firstK(view, view == 2 ? 2 : 1, shards, all);
            }
        }
    }

    private static void firstK(int view, int how, int shards, int[] all) {
        HybridSearch x = Samples.allMatching();
        for (int k : new int[] {0, 1, 2, 15, 16, 17, 20}) {
            int size = Math.min(k, 16);
            String call = "view " + view + ", how " + how + ", K " + k + ", shards " + shards;
            checks.answers(call, size, () -> x.search(view, how, k, shards));
            checks.found(call, x, view, Arrays.copyOf(all, size));
        }
        for (int k : new int[] {Integer.MIN_VALUE, -1, 21, Integer.MAX_VALUE}) {
            checks.refuses("K " + k, ARGUMENT, () -> x.search(view, how, k, shards));
        }
        checks.found("the list of 20 stays", x, view, all);
    }

    /** "A LIST has the matching documents". */
    private static void noMoreThanMatch() {
        HybridSearch x = Samples.ofWords();
        x.word(5);
        for (int how = 0; how < 2; how++) {
            for (int k = 2; k <= 4; k++) {
                int h = how;
                int n = k;
                checks.answers("three match, K " + n, Math.min(n, 3), () -> x.search(0, h, n, 2));
                checks.found("three match, K " + n, x, 0, Arrays.copyOf(new int[] {2, 5, 1}, Math.min(n, 3)));
            }
        }
    }

    /** "shard s has the documents whose number modulo that is s": some shards have none. */
    private static void fewerDocumentsThanShards() {
        for (int documents = 0; documents <= 3; documents++) {
            HybridSearch x = Samples.withDocuments(documents);
            x.centroid(0f, 0f, 0f, 0f);
            for (int document = 0; document < documents; document++) {
                x.count(document, 0);
                x.weigh(document, 0, 1f);
                x.token(document, 1f, 1f, 1f, 1f);
            }
            x.word(0);
            x.impact(0, 1);
            x.vector(1f, 1f, 1f, 1f);
            int due = documents;
            for (int view = 0; view < 3; view++) {
                int v = view;
                for (int how : new int[] {0, view == 2 ? 2 : 1}) {
                    for (int shards = 1; shards <= 3; shards++) {
                        int s = shards;
                        checks.answers(due + " documents", due, () -> x.search(v, how, 20, s));
                        checks.found(due + " documents", x, v, Arrays.copyOf(UP, due));
                        checks.worked(due + " documents", x, v, due, 0, 0);
                    }
                }
            }
        }
    }

    /** K of 0: ALL scores each matching document, NEAR each candidate, PRUNED none; the list is there, and empty. */
    private static void noPlacesAtAll() {
        HybridSearch x = Samples.allMatching();
        for (int shards = 1; shards <= 3; shards++) {
            int s = shards;
            for (int view = 0; view < 3; view++) {
                int v = view;
                checks.answers("all, K 0", 0, () -> x.search(v, 0, 0, s));
                checks.found("all, K 0", x, v);
                checks.worked("all, K 0", x, v, 16, 0, 0);
            }
            for (int view = 0; view < 2; view++) {
                int v = view;
                checks.answers("pruned, K 0", 0, () -> x.search(v, 1, 0, s));
                checks.found("pruned, K 0", x, v);
                checks.worked("pruned, K 0", x, v, 0, 4 * s, 0);
            }
            checks.answers("near, K 0", 0, () -> x.search(2, 2, 0, s));
            checks.found("near, K 0", x, 2);
            checks.worked("near, K 0", x, 2, 16, 0, 0);
        }
    }

    /** "how many are in its list, which is the latest one then". */
    private static void theLatestListAlone() {
        HybridSearch x = Samples.allMatching();
        for (int view = 0; view < 3; view++) {
            x.search(view, 0, 20, 1);
        }
        for (int view = 0; view < 3; view++) {
            int v = view;
            int[] all = view == 0 ? UP : DOWN;
            checks.found("a long one", x, v, all);
            checks.answers("a short one", 1, () -> x.search(v, 0, 1, 1));
            checks.found("a short one", x, v, all[0]);
            checks.answers("an empty one", 0, () -> x.search(v, 0, 0, 1));
            checks.found("an empty one", x, v);
            checks.answers("a longer one", 2, () -> x.search(v, 0, 2, 1));
            checks.found("a longer one", x, v, all[0], all[1]);
        }
        checks.found("another view's stays", x, 0, 0, 1);
    }

    /** "How many documents .. scored (what = 0), blocks it skipped (1), documents it passed (2)". */
    private static void whatWorkTells() {
        HybridSearch x = Samples.allMatching();
        checks.answers("equal ones", 3, () -> x.search(0, 1, 3, 1));
        checks.worked("equal ones", x, 0, 3, 3, 1);
        for (int what : new int[] {Integer.MIN_VALUE, -1, 3, Integer.MAX_VALUE}) {
            checks.refuses("what " + what, ARGUMENT, () -> x.work(0, what));
        }
        checks.answers("all of them", 3, () -> x.search(0, 0, 3, 1));
        checks.worked("work is the latest search's, and not added", x, 0, 16, 0, 0);
        checks.noList("that was never made", x, 1);
        checks.noList("that was never made", x, 2);
    }

    /** Where two refusals fit, it is the one that the promise names first. */
    private static void whichRefusalComesFirst() {
        HybridSearch x = Samples.ofWords();
        checks.refuses("no centroids, K 21", ARGUMENT, () -> x.search(2, 2, 21, 1));
        checks.refuses("no centroids, no shards", ARGUMENT, () -> x.search(2, 2, 1, 0));
        checks.refuses("no centroids, K 0", STATE, () -> x.search(2, 2, 0, 1));
        checks.refuses("no view, no list, no place", ARGUMENT, () -> x.hit(3, -1));
        checks.refuses("no view, no list, no place", ARGUMENT, () -> x.score(-1, 99));
        checks.refuses("no list, no place", NO_SUCH, () -> x.hit(2, -1));
        checks.refuses("no list, no place", NO_SUCH, () -> x.score(0, 99));
        checks.refuses("no view, no list", ARGUMENT, () -> x.work(3, 0));
        checks.refuses("no list, no what", ARGUMENT, () -> x.work(0, 3));
    }

    private static void oneDocumentOneWord() {
        HybridSearch x = Samples.withDocuments(1);
        x.count(0, 11);
        x.word(11);
        checks.answers("the only one", 1, () -> x.search(0, 0, 1, 1));
        checks.scored("the only one", x, 0, 0.2876820724517809);
        Samples.counts(x, 0, 11, 4);
        x.search(0, 1, 1, 1);
        checks.scored("five times", x, 0, 0.510403676930579);
    }

    /** The least IDF that there is, which is above 0. */
    private static void aWordThatAllHave() {
        HybridSearch x = Samples.allMatching();
        x.search(0, 0, 1, 1);
        checks.scored("16 of 16", x, 0, 0.02985296314968113);
    }

    private static void aWordThatOneHas() {
        HybridSearch x = Samples.withDocuments(16);
        x.count(9, 3);
        x.word(3);
        checks.answers("1 of 16", 1, () -> x.search(0, 0, 20, 3));
        checks.found("1 of 16", x, 0, 9);
        checks.scored("1 of 16, all others empty", x, 0, 0.34019402032393087);
        HybridSearch y = Samples.withDocuments(2);
        y.count(0, 3);
        y.word(3);
        y.search(0, 0, 1, 1);
        checks.scored("1 of 2, the other empty", y, 0, 0.4919109023328644);
    }

    /** "a document that has it not: nothing. .. It MATCHES if it has one." */
    private static void aWordThatNoneHas() {
        HybridSearch x = Samples.withDocuments(2);
        x.word(7);
        checks.answers("no counts at all", 0, () -> x.search(0, 0, 20, 1));
        checks.answers("no counts at all, pruned", 0, () -> x.search(0, 1, 20, 1));
        checks.worked("no counts at all, pruned", x, 0, 0, 0, 0);
        x.count(0, 3);
        checks.answers("another term alone", 0, () -> x.search(0, 0, 20, 1));
        x.word(3);
        checks.answers("beside one that it has", 1, () -> x.search(0, 0, 20, 1));
        checks.scored("beside one that it has", x, 0, 0.4919109023328644);
    }

    /** "its LENGTH is all its counts together", also of terms that are not asked for. */
    private static void lengthsOfAllTerms() {
        HybridSearch x = Samples.withDocuments(2);
        x.count(0, 0);
        x.count(0, 11);
        x.count(1, 0);
        x.word(0);
        x.search(0, 0, 20, 1);
        checks.found("the shorter one first", x, 0, 1, 0);
        checks.scored("the shorter one first", x, 0, 0.21110917102457905, 0.16044296997868007);
    }

    /** "added what the query's words that it has add, in their order". */
    private static void wordsInTheirOrder() {
        HybridSearch x = Samples.withDocuments(2);
        x.count(0, 0);
        x.count(0, 1);
        Samples.counts(x, 0, 2, 2);
        x.count(1, 0);
        for (int how = 0; how < 2; how++) {
            x.clear();
            x.word(0);
            x.word(1);
            x.word(2);
            x.search(0, how, 1, 1);
            checks.scored("one way", x, 0, 1.5183983742318774);
            x.clear();
            x.word(2);
            x.word(1);
            x.word(0);
            x.search(0, how, 1, 1);
            checks.scored("the other way", x, 0, 1.5183983742318776);
        }
    }

    private static void theGreatestSumOfImpacts() {
        HybridSearch x = Samples.withDocuments(2);
        for (int term = 8; term < 12; term++) {
            x.weigh(0, term, MOST);
            x.impact(term, 100);
        }
        x.search(1, 0, 1, 1);
        checks.scored("the greatest", x, 1, 102000.0);
        x.clear();
        x.weigh(1, 0, MOST / 510);
        x.impact(0, 1);
        x.search(1, 0, 20, 1);
        checks.found("the least", x, 1, 1);
        checks.scored("the least", x, 1, 1.0);
    }

    /** "a document matches if one of these impacts is above 0". */
    private static void anImpactOfZero() {
        HybridSearch x = Samples.withDocuments(3);
        x.weigh(0, 0, 255f);
        x.weigh(1, 1, 0.49f);
        x.weigh(2, 1, 0.51f);
        x.impact(1, 100);
        for (int how = 0; how < 2; how++) {
            int h = how;
            checks.answers("an impact of 0 and one of 1", 1, () -> x.search(1, h, 20, 1));
            checks.found("an impact of 0 and one of 1", x, 1, 2);
            checks.scored("an impact of 0 and one of 1", x, 1, 100.0);
            checks.worked("an impact of 0 and one of 1", x, 1, 1, 0, 0);
        }
        x.weigh(1, 0, 2f);
        x.impact(0, 3);
        x.search(1, 0, 20, 1);
        checks.found("an impact of 0 beside another", x, 1, 0, 2, 1);
        checks.scored("an impact of 0 beside another", x, 1, 765.0, 100.0, 6.0);
    }

    private static void theGreatestProducts() {
        HybridSearch x = Samples.withDocuments(3);
        x.token(0, -MOST, -MOST, -MOST, -MOST);
        x.token(1, 0f, 0f, 0f, 0f);
        x.token(2, MOST, MOST, MOST, MOST);
        for (int n = 0; n < 3; n++) {
            x.vector(MOST, MOST, MOST, MOST);
        }
        x.search(2, 0, 20, 1);
        checks.found("the greatest and the least", x, 2, 2, 1, 0);
        checks.scored("the greatest and the least", x, 2, 13194139533312.0, 0.0, -13194139533312.0);
    }

    /** "the greatest of the products": not at least 0. */
    private static void allProductsBelowZero() {
        HybridSearch x = Samples.withDocuments(2);
        x.token(0, -3f, 0f, 0f, 0f);
        x.token(0, -2f, 0f, 0f, 0f);
        x.token(0, -4f, 0f, 0f, 0f);
        x.token(1, -2.5f, 0f, 0f, 0f);
        x.vector(1f, 0f, 0f, 0f);
        x.search(2, 0, 20, 1);
        checks.found("below 0", x, 2, 0, 1);
        checks.scored("below 0", x, 2, -2.0, -2.5);
    }

    private static void allPlacesOfAVector() {
        HybridSearch x = Samples.withDocuments(1);
        x.token(0, 1f, 10f, 100f, 1000f);
        for (int n = 0; n < 4; n++) {
            x.clear();
            x.vector(n == 0 ? 2f : 0f, n == 1 ? 2f : 0f, n == 2 ? 2f : 0f, n == 3 ? 2f : 0f);
            x.search(2, 0, 1, 1);
            checks.scored("place " + n, x, 2, new double[] {2, 20, 200, 2000}[n]);
        }
    }

    /** "to which a1 * b1, a2 * b2, .. are added", in floats: 2 to the power of 40 and 1 is no float. */
    private static void placesInTheirOrder() {
        HybridSearch x = Samples.withDocuments(2);
        x.token(0, MOST, 1f, MOST, 0f);
        x.token(1, MOST, MOST, 1f, 0f);
        x.vector(MOST, 1f, -MOST, 0f);
        x.search(2, 0, 2, 1);
        checks.scored("the 1 is lost between the others", x, 2, 1099511627776.0, 0.0);
        x.clear();
        x.vector(MOST, -MOST, 1f, 0f);
        x.search(2, 0, 2, 1);
        checks.scored("the 1 comes last", x, 2, 1099511627776.0, 1.0);
    }

    /** "added, for each of the query's vectors, .. in their order". */
    private static void vectorsInTheirOrder() {
        HybridSearch x = Samples.withDocuments(1);
        x.token(0, MOST, 1f, 0f, 0f);
        x.vector(MOST, 0f, 0f, 0f);
        x.vector(-MOST, 0f, 0f, 0f);
        x.vector(0f, 1f, 0f, 0f);
        x.search(2, 0, 1, 1);
        checks.scored("the small one last", x, 2, 1.0);
        x.clear();
        x.vector(MOST, 0f, 0f, 0f);
        x.vector(0f, 1f, 0f, 0f);
        x.vector(-MOST, 0f, 0f, 0f);
        x.search(2, 0, 1, 1);
        checks.scored("the small one between is lost", x, 2, 0.0);
    }

    /** "(0 and -0 are equal)": no score is -0, as each is added to 0. */
    private static void zeroAndMinusZero() {
        HybridSearch x = Samples.withDocuments(5);
        x.token(4, 0f, 0f, 0f, 0f);
        x.token(3, -0f, -0f, -0f, -0f);
        x.token(2, -Float.MIN_VALUE, 0f, 0f, 0f);
        x.token(1, 0f, 0f, 0f, 0f);
        x.token(1, -0f, -0f, -0f, -0f);
        x.token(0, 4f, -1f, 0f, 0f);
        x.vector(0.25f, 1f, 0.5f, 0.5f);
        for (int shards = 1; shards <= 3; shards++) {
            x.search(2, 0, 20, shards);
            checks.found("all are 0", x, 2, 0, 1, 2, 3, 4);
            checks.scored("all are 0", x, 2, 0.0, 0.0, 0.0, 0.0, 0.0);
        }
        x.clear();
        x.vector(-0f, -0f, -0f, -0f);
        x.search(2, 0, 20, 1);
        checks.found("a query of -0", x, 2, 0, 1, 2, 3, 4);
        checks.scored("a query of -0", x, 2, 0.0, 0.0, 0.0, 0.0, 0.0);
    }

    /** "A document matches if it has a token (and the query a vector)." */
    private static void tokensWithoutVectors() {
        HybridSearch x = Samples.withDocuments(2);
        x.token(1, 0f, 0f, 0f, 0f);
        x.centroid(0f, 0f, 0f, 0f);
        for (int how = 0; how <= 2; how += 2) {
            int h = how;
            x.clear();
            checks.answers("without a vector", 0, () -> x.search(2, h, 20, 1));
            checks.found("without a vector", x, 2);
            checks.worked("without a vector", x, 2, 0, 0, 0);
            x.vector(0f, 0f, 0f, 0f);
            checks.answers("with one", 1, () -> x.search(2, h, 20, 1));
            checks.found("with one", x, 2, 1);
            checks.worked("with one", x, 2, 1, 0, 0);
        }
    }

    /** "of equal ones .. by their number": also across shards, and where the list ends. */
    private static void equalScoresByNumber() {
        HybridSearch x = Samples.withDocuments(9);
        x.weigh(4, 11, 255f);
        for (int document = 8; document >= 0; document--) {
            float number = document % 4 == 3 ? 9f : 7f;
            x.weigh(document, 0, number);
            x.token(document, number, 0f, 0f, 0f);
        }
        x.impact(0, 1);
        x.vector(1f, 0f, 0f, 0f);
        for (int view = 1; view <= 2; view++) {
            for (int shards = 1; shards <= 3; shards++) {
                x.search(view, 0, 20, shards);
                checks.found("equal ones", x, view, 3, 7, 0, 1, 2, 4, 5, 6, 8);
                x.search(view, 0, 4, shards);
                checks.found("equal ones at the end", x, view, 3, 7, 0, 1);
            }
        }
        for (int shards = 1; shards <= 3; shards++) {
            x.search(1, 1, 4, shards);
            checks.found("equal ones at the end, pruned", x, 1, 3, 7, 0, 1);
        }
    }
}
