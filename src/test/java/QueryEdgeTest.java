/** The boundaries of promises 7 to 10, and of what 'Terms' says of the query; refusals: RefusedTest. */
public final class QueryEdgeTest implements Kinds {
    private static final Checks checks = new Checks("QueryEdgeTest");

    public static void main(String[] args) {
        everyTermOnce();
        fourWords();
        fourImpacts();
        weightsOfImpacts();
        threeVectors();
        whichRefusalComesFirst();
        clearEmptiesAFullQuery();
        clearOfAnEmptyQuery();
        clearLeavesTheCollection();
        anEmptyListIsTaken();
        checks.end();
    }

    /** "for each TERM 0 .. 11", "(different terms)". */
    private static void everyTermOnce() {
        HybridSearch x = new HybridSearch();
        for (int term = 0; term < 12; term++) {
            int t = term;
            int due = term % 4 + 1;
            checks.answers("word " + t, due, () -> x.word(t));
            checks.answers("impact " + t, due, () -> x.impact(t, 1));
            checks.refuses("word " + t + " again", ARGUMENT, () -> x.word(t));
            checks.refuses("impact " + t + " again", ARGUMENT, () -> x.impact(t, 2));
            if (due == 4) {
                x.clear();
            }
        }
        for (int term : new int[] {Integer.MIN_VALUE, -1, 12, Integer.MAX_VALUE}) {
            checks.refuses("word " + term, INDEX, () -> x.word(term));
            checks.refuses("impact " + term, INDEX, () -> x.impact(term, 1));
        }
        checks.answers("a refused word is not there", 1, () -> x.word(11));
        checks.answers("a refused impact is not there", 1, () -> x.impact(11, 1));
    }

    /** "A word more of the query: how many .. IllegalStateException if there are 4." */
    private static void fourWords() {
        HybridSearch x = Samples.withDocuments(5);
        for (int document = 0; document < 5; document++) {
            x.count(document, document + 7);
        }
        for (int n = 1; n <= 4; n++) {
            int due = n;
            checks.answers("word " + n, due, () -> x.word(due + 6));
            checks.answers("found by " + n, due, () -> x.search(0, 0, 20, 1));
        }
        checks.refuses("a fifth", STATE, () -> x.word(11));
        checks.found("the list stays", x, 0, 0, 1, 2, 3);
        checks.answers("the fifth is nowhere", 4, () -> x.search(0, 0, 20, 1));
    }

    /** "An impact more of the query: how many .. IllegalStateException if there are 4." */
    private static void fourImpacts() {
        HybridSearch x = Samples.withDocuments(5);
        for (int document = 0; document < 5; document++) {
            x.weigh(document, document + 7, 1f);
        }
        for (int n = 1; n <= 4; n++) {
            int due = n;
            checks.answers("impact " + n, due, () -> x.impact(due + 6, 1));
            checks.answers("found by " + n, due, () -> x.search(1, 0, 20, 1));
        }
        checks.refuses("a fifth", STATE, () -> x.impact(11, 1));
        checks.found("the list stays", x, 1, 0, 1, 2, 3);
        checks.answers("the fifth is nowhere", 4, () -> x.search(1, 0, 20, 1));
    }

    /** "or the weight is not 1 .. 100". */
    private static void weightsOfImpacts() {
        HybridSearch x = Samples.withDocuments(1);
        for (int term = 0; term < 4; term++) {
            x.weigh(0, term, 1f);
        }
        for (int weight : new int[] {Integer.MIN_VALUE, -100, -1, 0, 101, 102, Integer.MAX_VALUE}) {
            checks.refuses("weight " + weight, ARGUMENT, () -> x.impact(0, weight));
        }
        checks.answers("a refused impact is not there", 1, () -> x.impact(0, 1));
        checks.answers("found by the least", 1, () -> x.search(1, 0, 1, 1));
        checks.scored("by the least", x, 1, 255);
        int[] weights = {2, 99, 100};
        double[] due = {765, 26010, 51510};
        for (int i = 0; i < 3; i++) {
            int n = i;
            checks.answers("weight " + weights[n], n + 2, () -> x.impact(n + 1, weights[n]));
            x.search(1, 0, 1, 1);
            checks.scored("with weight " + weights[n], x, 1, due[n]);
        }
    }

    /** "A vector more of the query: how many .. IllegalStateException if there are 3." */
    private static void threeVectors() {
        HybridSearch x = Samples.withDocuments(1);
        x.token(0, 1f, 10f, 100f, 1000f);
        float[][] vectors = {{1f, 0f, 0f, 0f}, {0f, 0f, 1f, 0f}, {0f, 0f, 1f, 0f}};
        double[] due = {1, 101, 201};
        for (int i = 0; i < 3; i++) {
            float[] v = vectors[i];
            checks.answers("vector " + i, i + 1, () -> x.vector(v[0], v[1], v[2], v[3]));
            x.search(2, 0, 1, 1);
            checks.scored("with " + (i + 1), x, 2, due[i]);
        }
        checks.refuses("a fourth", STATE, () -> x.vector(0f, 0f, 0f, 1f));
        checks.found("the list stays", x, 2, 0);
        x.search(2, 0, 1, 1);
        checks.scored("the fourth is nowhere", x, 2, 201);
    }

    /** Where two refusals fit, it is the one that the promise names first. */
    private static void whichRefusalComesFirst() {
        HybridSearch x = Samples.full();
        checks.refuses("no term, full", INDEX, () -> x.word(12));
        checks.refuses("there, full", ARGUMENT, () -> x.word(0));
        checks.refuses("no term, full, no weight", INDEX, () -> x.impact(12, 0));
        checks.refuses("there, full", ARGUMENT, () -> x.impact(0, 1));
        checks.refuses("full, no weight", ARGUMENT, () -> x.impact(11, 101));
        checks.refuses("full, no number", ARGUMENT, () -> x.vector(0f, 0f, 0f, Float.NaN));
    }

    /** "The query is empty; all lists are gone." */
    private static void clearEmptiesAFullQuery() {
        HybridSearch x = Samples.full();
        checks.does("clear", x::clear);
        checks.noLists("after clear", x);
        for (int view = 0; view < 3; view++) {
            int v = view;
            checks.answers("nothing is asked", 0, () -> x.search(v, 0, 20, 1));
        }
        checks.answers("nothing is asked, near", 0, () -> x.search(2, 2, 20, 1));
        for (int n = 1; n <= 4; n++) {
            int due = n;
            checks.answers("word " + n, due, () -> x.word(due - 1));
            checks.answers("impact " + n, due, () -> x.impact(due - 1, 100));
        }
        for (int n = 1; n <= 3; n++) {
            int due = n;
            checks.answers("vector " + n, due, () -> x.vector(due, 0f, 0f, 0f));
        }
        checks.refuses("a fifth word", STATE, () -> x.word(11));
        checks.refuses("a fifth impact", STATE, () -> x.impact(11, 1));
        checks.refuses("a fourth vector", STATE, () -> x.vector(0f, 0f, 0f, 0f));
    }

    private static void clearOfAnEmptyQuery() {
        HybridSearch x = new HybridSearch();
        checks.does("clear of a new object", x::clear);
        checks.noLists("after that", x);
        x.search(0, 0, 1, 1);
        x.search(1, 1, 1, 1);
        x.search(2, 0, 1, 1);
        x.fuse(0);
        checks.does("clear of an empty query", x::clear);
        checks.noLists("after that", x);
    }

    private static void clearLeavesTheCollection() {
        HybridSearch x = Samples.full();
        x.clear();
        checks.refuses("16 documents", STATE, x::document);
        checks.refuses("4 centroids", STATE, () -> x.centroid(0f, 0f, 0f, 0f));
        checks.answers("a weight", 255, () -> x.quantised(15, 11));
        x.word(11);
        x.impact(11, 1);
        x.vector(1f, 0f, 0f, 0f);
        checks.answers("counts", 1, () -> x.search(0, 0, 20, 1));
        checks.found("counts", x, 0, 7);
        checks.answers("weights", 1, () -> x.search(1, 0, 20, 1));
        checks.found("weights", x, 1, 15);
        checks.answers("tokens", 16, () -> x.search(2, 0, 20, 1));
        checks.refuses("4 tokens", STATE, () -> x.token(0, 0f, 0f, 0f, 0f));
    }

    /** "the list of view .. is gone", also if there is nothing in it. */
    private static void anEmptyListIsTaken() {
        HybridSearch x = new HybridSearch();
        for (int view = 0; view < 3; view++) {
            x.search(view, 0, 0, 1);
        }
        x.word(0);
        checks.noList("after word", x, 0);
        checks.found("after word", x, 1);
        checks.found("after word", x, 2);
        x.impact(0, 1);
        checks.noList("after impact", x, 1);
        checks.found("after impact", x, 2);
        checks.answers("one is left", 0, () -> x.fuse(0));
        x.vector(0f, 0f, 0f, 0f);
        checks.noLists("after vector", x);
    }
}
