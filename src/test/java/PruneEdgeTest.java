/** The boundaries of HOW 1, PRUNED: blocks that are skipped, documents that are passed, in shards; promises 11, 14. */
public final class PruneEdgeTest {
    /** How many blocks have a document of a shard, all shards together, by the number of documents. */
    private static final int[][] BLOCKS = {
        {0, 0, 0}, {1, 1, 1}, {1, 2, 2}, {1, 2, 3}, {1, 2, 3}, {2, 3, 4}, {2, 4, 5}, {2, 4, 6}, {2, 4, 6},
        {3, 5, 7}, {3, 6, 8}, {3, 6, 9}, {3, 6, 9}, {4, 7, 10}, {4, 8, 11}, {4, 8, 12}, {4, 8, 12},
    };

    private static final Checks checks = new Checks("PruneEdgeTest");

    public static void main(String[] args) {
        noPlacesSkipEveryBlock();
        aListThatIsNotFullSkipsNothing();
        aBlockBoundThatIsEqual();
        aBlockBoundOfTwoTerms();
        aDocumentsBoundThatIsEqual();
        aDocumentsBoundOfOthers();
        aTermWithAnImpactOfZero();
        boundsOfAllShards();
        aListForEachShard();
        lastBlocksWithoutDocumentsOfAShard();
        aBlockWithoutMatches();
        theLastOnesScoreGrows();
        theListIsFullAtTheBlocksEnd();
        equalDocuments();
        boundsOfWords();
        boundsOfWordsInTheirOrder();
        checks.end();
    }

    /** So many documents, whose impacts for the query's terms 0 and 1 are the weights that they are given. */
    private static HybridSearch ofImpacts(int documents) {
        HybridSearch x = Samples.withDocuments(documents);
        x.weigh(documents - 1, 11, 255f);
        x.impact(0, 1);
        x.impact(1, 1);
        return x;
    }

    private static HybridSearch first100() {
        HybridSearch x = ofImpacts(8);
        x.weigh(0, 0, 100f);
        return x;
    }

    private static void pruned(String what, HybridSearch x, int k, int shards, int[] work, int... documents) {
        checks.answers(what, documents.length, () -> x.search(1, 1, k, shards));
        checks.found(what, x, 1, documents);
        checks.worked(what, x, 1, work[0], work[1], work[2]);
    }

    private static int[] work(int scored, int skipped, int passed) {
        return new int[] {scored, skipped, passed};
    }

    /** "(also if K is 0) .. (if K is 0: always)", "(Blocks without documents of the shard are not looked at.)" */
    private static void noPlacesSkipEveryBlock() {
        HybridSearch x = new HybridSearch();
        x.word(0);
        x.impact(0, 1);
        for (int documents = 0; documents <= 16; documents++) {
            for (int shards = 1; shards <= 3; shards++) {
                for (int view = 0; view < 2; view++) {
                    int v = view;
                    int s = shards;
                    String what = documents + " documents, K 0, shards " + s + ", view " + v;
                    checks.answers(what, 0, () -> x.search(v, 1, 0, s));
                    checks.answers(what, BLOCKS[documents][s - 1], () -> x.work(v, 1));
                }
            }
            if (documents < 16) {
                x.document();
                x.count(documents, documents % 2);
                x.weigh(documents, documents % 2, 1f);
            }
        }
    }

    /** "A block is SKIPPED if the shard's list has K documents": else not, even if nothing in it matches. */
    private static void aListThatIsNotFullSkipsNothing() {
        HybridSearch x = Samples.withDocuments(16);
        for (int view = 0; view < 2; view++) {
            int v = view;
            checks.answers("no terms", 0, () -> x.search(v, 1, 1, 1));
            checks.worked("no terms", x, v, 0, 0, 0);
        }
        x.weigh(0, 0, 5f);
        x.weigh(5, 0, 4f);
        x.weigh(15, 0, 3f);
        x.impact(0, 1);
        pruned("four places for three", x, 4, 1, work(3, 0, 0), 0, 5, 15);
        pruned("three places, full at the end", x, 3, 1, work(3, 0, 0), 0, 5, 15);
        pruned("two places", x, 2, 1, work(2, 2, 0), 0, 5);
        pruned("one place", x, 1, 1, work(1, 3, 0), 0);
    }

    /** "and the block's bound is not above the last one's score". */
    private static void aBlockBoundThatIsEqual() {
        HybridSearch x = first100();
        x.weigh(4, 0, 99f);
        pruned("below", x, 1, 1, work(1, 1, 0), 0);
        x.weigh(4, 0, 100f);
        pruned("equal", x, 1, 1, work(1, 1, 0), 0);
        x.weigh(4, 0, 101f);
        pruned("above", x, 1, 1, work(2, 0, 0), 4);
    }

    /** "a block's bound is 0 and those of the query's terms". */
    private static void aBlockBoundOfTwoTerms() {
        HybridSearch x = first100();
        x.weigh(4, 0, 60f);
        x.weigh(7, 1, 40f);
        pruned("of two documents, equal", x, 1, 1, work(1, 1, 0), 0);
        x.weigh(7, 1, 41f);
        pruned("of two documents, above, each below", x, 1, 1, work(1, 0, 2), 0);
        x.weigh(5, 2, 200f);
        pruned("a term that is not asked for", x, 1, 1, work(1, 0, 2), 0);
    }

    /** "PASSED if the list has K documents, and .. are not above the last one's score". */
    private static void aDocumentsBoundThatIsEqual() {
        HybridSearch x = first100();
        x.weigh(1, 0, 50f);
        pruned("equal to the bound in its block", x, 1, 1, work(1, 1, 1), 0);
        pruned("the list is not full", x, 2, 1, work(2, 1, 0), 0, 1);
        x.weigh(1, 1, 1f);
        pruned("one above, though not its score", x, 1, 1, work(2, 1, 0), 0);
        x.weigh(1, 0, 0f);
        pruned("the small term alone", x, 1, 1, work(1, 1, 1), 0);
    }

    /** "the greatest that it adds to one of the block's documents". */
    private static void aDocumentsBoundOfOthers() {
        HybridSearch x = first100();
        x.weigh(4, 0, 60f);
        x.weigh(4, 1, 1f);
        x.weigh(5, 1, 40f);
        pruned("60 and 40", x, 1, 1, work(1, 1, 0), 0);
        x.weigh(5, 1, 41f);
        pruned("60 and 41: the one with both is scored", x, 1, 1, work(2, 0, 1), 0);
        x.weigh(4, 0, 0f);
        pruned("41 alone", x, 1, 1, work(1, 1, 0), 0);
    }

    /** "(view 1: with an impact above 0)". */
    private static void aTermWithAnImpactOfZero() {
        HybridSearch x = first100();
        x.weigh(4, 0, 0.4f);
        x.weigh(4, 1, 50f);
        x.weigh(5, 0, 60f);
        x.weigh(5, 1, 50f);
        pruned("an impact of 0 has no bound", x, 1, 1, work(2, 0, 1), 5);
        x.weigh(4, 0, 0.6f);
        pruned("an impact of 1 has", x, 1, 1, work(3, 0, 0), 5);
        x.weigh(4, 1, 0f);
        x.weigh(4, 0, 0.4f);
        pruned("a document that does not match is not passed", x, 1, 1, work(2, 0, 0), 5);
    }

    /** "(of all shards; 0 if it adds nothing)". */
    private static void boundsOfAllShards() {
        HybridSearch x = first100();
        x.weigh(1, 0, 100f);
        x.weigh(4, 0, 10f);
        x.weigh(5, 0, 100f);
        pruned("equal in both shards", x, 1, 2, work(2, 2, 0), 0);
        x.weigh(5, 0, 101f);
        pruned("the other shard's document is above", x, 1, 2, work(4, 0, 0), 5);
        x.weigh(6, 1, 1f);
        pruned("a document with another bound", x, 1, 2, work(4, 0, 1), 5);
    }

    /** "shard s has the documents whose number modulo that is s; each makes its list of K". */
    private static void aListForEachShard() {
        HybridSearch x = ofImpacts(16);
        for (int document = 0; document < 16; document++) {
            x.weigh(document, 0, 100f - document);
        }
        pruned("one shard", x, 1, 1, work(1, 3, 3), 0);
        pruned("two shards", x, 1, 2, work(3, 6, 1), 0);
        pruned("three shards", x, 1, 3, work(3, 9, 1), 0);
        pruned("one shard of four", x, 4, 1, work(4, 3, 0), 0, 1, 2, 3);
        pruned("two shards of four", x, 4, 2, work(8, 4, 0), 0, 1, 2, 3);
        pruned("three shards of four", x, 4, 3, work(12, 3, 0), 0, 1, 2, 3);
    }

    /** "(Blocks without documents of the shard are not looked at.)" */
    private static void lastBlocksWithoutDocumentsOfAShard() {
        int[][] due = {work(3, 0, 1), work(3, 1, 1), work(3, 2, 1), work(3, 3, 1), work(3, 3, 1)};
        for (int documents = 4; documents <= 8; documents++) {
            HybridSearch x = ofImpacts(documents);
            for (int document = 0; document < documents; document++) {
                x.weigh(document, 0, 100f - document);
            }
            pruned(documents + " documents", x, 1, 3, due[documents - 4], 0);
        }
    }

    private static void aBlockWithoutMatches() {
        HybridSearch x = ofImpacts(12);
        x.weigh(0, 0, 100f);
        x.weigh(8, 0, 100f);
        pruned("a bound of 0 is not above", x, 1, 1, work(1, 2, 0), 0);
        pruned("not full: it is not skipped", x, 2, 1, work(2, 0, 0), 0, 8);
        pruned("a shard without matches", x, 1, 2, work(1, 2, 0), 0);
    }

    private static void theLastOnesScoreGrows() {
        HybridSearch x = first100();
        x.weigh(1, 0, 50f);
        x.weigh(4, 0, 50f);
        pruned("equal to the second", x, 2, 1, work(2, 1, 0), 0, 1);
        x.weigh(4, 0, 51f);
        x.weigh(5, 0, 51f);
        pruned("above the second, then equal to it", x, 2, 1, work(3, 0, 1), 0, 4);
        x.weigh(5, 1, 1f);
        pruned("above it again", x, 2, 1, work(4, 0, 0), 0, 5);
    }

    private static void theListIsFullAtTheBlocksEnd() {
        HybridSearch x = ofImpacts(8);
        for (int document = 0; document < 8; document++) {
            x.weigh(document, 0, 8f - document);
        }
        pruned("one less than the block", x, 3, 1, work(4, 1, 0), 0, 1, 2);
        pruned("as many as the block", x, 4, 1, work(4, 1, 0), 0, 1, 2, 3);
        pruned("one more than the block", x, 5, 1, work(5, 0, 3), 0, 1, 2, 3, 4);
        pruned("all but one", x, 7, 1, work(8, 0, 0), 0, 1, 2, 3, 4, 5, 6);
        pruned("all", x, 8, 1, work(8, 0, 0), 0, 1, 2, 3, 4, 5, 6, 7);
        pruned("20", x, 20, 1, work(8, 0, 0), 0, 1, 2, 3, 4, 5, 6, 7);
    }

    private static void equalDocuments() {
        HybridSearch x = Samples.withDocuments(8);
        for (int document = 0; document < 8; document++) {
            x.count(document, 0);
            x.weigh(document, 0, 1f);
        }
        x.word(0);
        x.impact(0, 1);
        int[][] due = {work(0, 2, 0), work(1, 1, 3), work(2, 1, 2), work(3, 1, 1), work(4, 1, 0), work(5, 0, 3),
            work(6, 0, 2), work(7, 0, 1), work(8, 0, 0), work(8, 0, 0)};
        for (int view = 0; view < 2; view++) {
            for (int k = 0; k < due.length; k++) {
                x.search(view, 1, k, 1);
                checks.worked("equal ones, K " + k, x, view, due[k][0], due[k][1], due[k][2]);
            }
        }
    }

    /** In blocks of equal documents, whose bounds are scores: only what a document lacks makes it be passed. */
    private static void boundsOfWords() {
        HybridSearch x = Samples.withDocuments(8);
        for (int document = 0; document < 8; document++) {
            x.count(document, document == 2 || document == 6 ? 1 : 0);
        }
        x.word(0);
        x.word(1);
        x.search(0, 1, 1, 1);
        checks.found("the rarer word", x, 0, 2);
        // Document 2's bound is that of word 1, above document 0's score; document 6's block has the same bounds as
        // the first, above document 2's score, but each of its documents has one word alone.
        checks.worked("the rarer word", x, 0, 2, 0, 6);
        x.search(0, 1, 2, 1);
        checks.found("both with the rarer word", x, 0, 2, 6);
        checks.worked("both with the rarer word", x, 0, 4, 0, 4);
    }

    /** "added in their order": as the scores of equal documents are, so that no bound is above them. */
    private static void boundsOfWordsInTheirOrder() {
        HybridSearch x = Samples.withDocuments(8);
        for (int document = 0; document < 8; document++) {
            for (int term = 0; term < 3; term++) {
                Samples.counts(x, document, term, term + 1);
            }
        }
        int[][] orders = {{0, 1, 2}, {2, 1, 0}};
        double[] due = {0.22557159747551153, 0.22557159747551156};
        for (int i = 0; i < 2; i++) {
            x.clear();
            for (int term : orders[i]) {
                x.word(term);
            }
            x.search(0, 1, 1, 1);
            checks.found("three words", x, 0, 0);
            checks.scored("three words", x, 0, due[i]);
            checks.worked("three words", x, 0, 1, 1, 3);
        }
    }
}
