/** Promises 7 to 10: clear, word, impact, vector. */
public final class QueryTest implements Kinds {
    private static final Checks checks = new Checks("QueryTest");

    public static void main(String[] args) {
        words();
        impacts();
        vectors();
        clearing();
        eachTakesItsOwnList();
        checks.end();
    }

    private static void words() {
        HybridSearch x = new HybridSearch();
        checks.answers("word 11", 1, () -> x.word(11));
        checks.answers("word 0", 2, () -> x.word(0));
        checks.refuses("word 0 again", ARGUMENT, () -> x.word(0));
        checks.refuses("word -1", INDEX, () -> x.word(-1));
        checks.refuses("word 12", INDEX, () -> x.word(12));
        checks.answers("word 3", 3, () -> x.word(3));
        checks.answers("word 4", 4, () -> x.word(4));
        checks.refuses("a fifth word", STATE, () -> x.word(5));
        checks.refuses("one that is there comes first", ARGUMENT, () -> x.word(4));
        checks.refuses("no such term comes first", INDEX, () -> x.word(12));
        checks.answers("impacts are apart", 1, () -> x.impact(0, 1));
    }

    private static void impacts() {
        HybridSearch x = new HybridSearch();
        checks.answers("weight 1", 1, () -> x.impact(0, 1));
        checks.answers("weight 100", 2, () -> x.impact(11, 100));
        checks.refuses("term 0 again", ARGUMENT, () -> x.impact(0, 1));
        checks.refuses("weight 0", ARGUMENT, () -> x.impact(1, 0));
        checks.refuses("weight 101", ARGUMENT, () -> x.impact(1, 101));
        checks.refuses("weight -1", ARGUMENT, () -> x.impact(1, -1));
        checks.refuses("term -1", INDEX, () -> x.impact(-1, 1));
        checks.refuses("term 12", INDEX, () -> x.impact(12, 1));
        checks.refuses("no such term comes before the weight", INDEX, () -> x.impact(12, 0));
        checks.answers("term 3", 3, () -> x.impact(3, 50));
        checks.answers("term 4", 4, () -> x.impact(4, 50));
        checks.refuses("a fifth impact", STATE, () -> x.impact(5, 50));
        checks.refuses("one that is there comes first", ARGUMENT, () -> x.impact(3, 50));
        checks.refuses("a wrong weight comes first", ARGUMENT, () -> x.impact(5, 101));
        checks.answers("words are apart", 1, () -> x.word(0));
    }

    private static void vectors() {
        HybridSearch x = new HybridSearch();
        checks.answers("vector 1", 1, () -> x.vector(1048576f, -1048576f, 0f, -0f));
        checks.answers("the same once more", 2, () -> x.vector(1048576f, -1048576f, 0f, -0f));
        checks.answers("vector 3", 3, () -> x.vector(0f, 0f, 0f, 0f));
        checks.refuses("a fourth", STATE, () -> x.vector(0f, 0f, 0f, 0f));
        checks.refuses("a wrong number comes first", ARGUMENT, () -> x.vector(0f, Float.NaN, 0f, 0f));
    }

    private static void clearing() {
        HybridSearch x = Samples.ofAllViews();
        x.clear();
        for (int view = 0; view < 3; view++) {
            int v = view;
            checks.refuses("no list after clear", NO_SUCH, () -> x.work(v, 0));
            checks.answers("nothing found after clear", 0, () -> x.search(v, 0, 20, 1));
        }
        checks.answers("a word that was there", 1, () -> x.word(5));
        checks.answers("an impact that was there", 1, () -> x.impact(2, 1));
        checks.answers("a vector", 1, () -> x.vector(1f, 0f, 0f, 0f));
        checks.answers("documents stay", 3, () -> x.search(0, 0, 20, 1));
        checks.answers("weights stay", 2, () -> x.search(1, 0, 20, 1));
        checks.answers("tokens stay", 2, () -> x.search(2, 0, 20, 1));
    }

    private static void eachTakesItsOwnList() {
        for (int view = 0; view < 3; view++) {
            HybridSearch x = Samples.fused();
            if (view == 0) {
                x.word(3);
            } else if (view == 1) {
                x.impact(3, 1);
            } else {
                x.vector(0f, 0f, 0f, 0f);
            }
            for (int other = 0; other < 3; other++) {
                int v = other;
                if (other == view) {
                    checks.refuses("list " + v, NO_SUCH, () -> x.hit(v, 0));
                } else {
                    checks.does("list " + v + " after a change for " + view, () -> x.hit(v, 0));
                }
            }
            checks.refuses("fused is gone", INDEX, () -> x.fused(0));
            checks.refuses("rating is gone", INDEX, () -> x.rating(0));
            checks.does("the other two can be put together", () -> x.fuse(0));
        }
    }
}
