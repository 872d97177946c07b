import java.util.function.BiConsumer;
import java.util.function.Consumer;
import java.util.function.Supplier;

/**
 * Every refusal of promises 2 to 19: the exception that the promise names, and an object that is as it was.
 * That of a full count is in CollectionEdgeTest: it takes more calls than a probe leaves.
 */
public final class RefusedTest implements Kinds {
    private static final int[] NO_DOCUMENTS = {Integer.MIN_VALUE, -1, 16, Integer.MAX_VALUE};
    private static final int[] NO_TERMS = {Integer.MIN_VALUE, -1, 12, Integer.MAX_VALUE};
    private static final int[] NO_VIEWS = {Integer.MIN_VALUE, -1, 3, Integer.MAX_VALUE};

    private static final Checks checks = new Checks("RefusedTest");

    public static void main(String[] args) {
        documents();
        counts();
        weights();
        tokens();
        centroids();
        words();
        impacts();
        vectors();
        searches();
        readings();
        withoutLists();
        fusing();
        quantising();
        checks.end();
    }

    private static void refuses(String what, Class<? extends RuntimeException> due, Consumer<HybridSearch> call) {
        refuses(what, due, Samples::full, call);
    }

    private static void refuses(String what, Class<? extends RuntimeException> due, Supplier<HybridSearch> sample,
            Consumer<HybridSearch> call) {
        HybridSearch x = sample.get();
        checks.refuses(what, due, () -> call.accept(x));
        checks.refuses(what + " again", due, () -> call.accept(x));
        checks.same(what + ": the object", Probe.of(sample.get()), Probe.of(x));
    }

    private static void wrongNumbers(String what, BiConsumer<HybridSearch, float[]> call) {
        for (float wrong : Samples.WRONG) {
            for (int place = 0; place < 4; place++) {
                float[] vector = new float[4];
                vector[place] = wrong;
                refuses(what + ", place " + place + ", " + wrong, ARGUMENT, Samples::fused,
                        x -> call.accept(x, vector));
            }
        }
    }

    private static void documents() {
        refuses("document 16", STATE, HybridSearch::document);
    }

    private static void counts() {
        for (int document : NO_DOCUMENTS) {
            refuses("count, document " + document, INDEX, x -> x.count(document, 0));
        }
        for (int term : NO_TERMS) {
            refuses("count, term " + term, INDEX, x -> x.count(0, term));
        }
    }

    private static void weights() {
        for (int document : NO_DOCUMENTS) {
            refuses("weigh, document " + document, INDEX, x -> x.weigh(document, 0, 30f));
        }
        for (int term : NO_TERMS) {
            refuses("weigh, term " + term, INDEX, x -> x.weigh(0, term, 30f));
        }
        for (float weight : Samples.WRONG) {
            refuses("weigh " + weight, ARGUMENT, x -> x.weigh(0, 0, weight));
        }
        refuses("weigh below 0", ARGUMENT, x -> x.weigh(0, 0, -Float.MIN_VALUE));
        refuses("weigh the least", ARGUMENT, x -> x.weigh(0, 0, -1048576f));
    }

    private static void tokens() {
        for (int document : NO_DOCUMENTS) {
            refuses("token, document " + document, INDEX, x -> x.token(document, 0f, 0f, 0f, 0f));
        }
        wrongNumbers("token", (x, v) -> x.token(1, v[0], v[1], v[2], v[3]));
        refuses("token 4", STATE, x -> x.token(0, 9f, 9f, 9f, 9f));
    }

    private static void centroids() {
        wrongNumbers("centroid", (x, v) -> x.centroid(v[0], v[1], v[2], v[3]));
        refuses("centroid 4", STATE, x -> x.centroid(9f, 9f, 9f, 9f));
    }

    private static void words() {
        for (int term : NO_TERMS) {
            refuses("word " + term, INDEX, Samples::fused, x -> x.word(term));
        }
        refuses("word 0 again", ARGUMENT, Samples::fused, x -> x.word(0));
        refuses("word 0 again, of four", ARGUMENT, x -> x.word(0));
        refuses("a fifth word", STATE, x -> x.word(11));
    }

    private static void impacts() {
        for (int term : NO_TERMS) {
            refuses("impact " + term, INDEX, Samples::fused, x -> x.impact(term, 1));
        }
        for (int weight : new int[] {Integer.MIN_VALUE, -1, 0, 101, Integer.MAX_VALUE}) {
            refuses("impact of weight " + weight, ARGUMENT, Samples::fused, x -> x.impact(3, weight));
        }
        refuses("impact 2 again", ARGUMENT, Samples::fused, x -> x.impact(2, 9));
        refuses("impact 2 again, of four", ARGUMENT, x -> x.impact(2, 9));
        refuses("a fifth impact", STATE, x -> x.impact(11, 1));
    }

    private static void vectors() {
        wrongNumbers("vector", (x, v) -> x.vector(v[0], v[1], v[2], v[3]));
        refuses("a fourth vector", STATE, x -> x.vector(9f, 9f, 9f, 9f));
    }

    private static void searches() {
        for (int view : NO_VIEWS) {
            refuses("search view " + view, ARGUMENT, x -> x.search(view, 0, 1, 1));
        }
        for (int view = 0; view < 3; view++) {
            int v = view;
            for (int how : new int[] {Integer.MIN_VALUE, -1, view == 2 ? 1 : 2, 3, Integer.MAX_VALUE}) {
                refuses("search " + v + " how " + how, ARGUMENT, x -> x.search(v, how, 1, 1));
            }
            for (int k : new int[] {Integer.MIN_VALUE, -1, 21, Integer.MAX_VALUE}) {
                refuses("search " + v + " k " + k, ARGUMENT, x -> x.search(v, 0, k, 1));
            }
            for (int shards : new int[] {Integer.MIN_VALUE, -1, 0, 4, Integer.MAX_VALUE}) {
                refuses("search " + v + " shards " + shards, ARGUMENT, x -> x.search(v, 0, 1, shards));
            }
        }
        refuses("near without centroids", STATE, Samples::fused, x -> x.search(2, 2, 1, 1));
    }

    private static void readings() {
        for (int view : NO_VIEWS) {
            refuses("hit of view " + view, ARGUMENT, x -> x.hit(view, 0));
            refuses("score of view " + view, ARGUMENT, x -> x.score(view, 0));
            refuses("work of view " + view, ARGUMENT, x -> x.work(view, 0));
        }
        for (int view = 0; view < 3; view++) {
            int v = view;
            int size = view == 0 ? 5 : view == 1 ? 16 : 7;
            for (int i : new int[] {Integer.MIN_VALUE, -1, size, Integer.MAX_VALUE}) {
                refuses("hit " + i + " of view " + v, INDEX, x -> x.hit(v, i));
                refuses("score " + i + " of view " + v, INDEX, x -> x.score(v, i));
            }
            for (int what : new int[] {Integer.MIN_VALUE, -1, 3, Integer.MAX_VALUE}) {
                refuses("work " + what + " of view " + v, ARGUMENT, x -> x.work(v, what));
            }
        }
    }

    private static void withoutLists() {
        Supplier<HybridSearch> none = Samples::ofWords;
        for (int view = 0; view < 3; view++) {
            int v = view;
            refuses("hit without a list", NO_SUCH, none, x -> x.hit(v, 0));
            refuses("score without a list", NO_SUCH, none, x -> x.score(v, 0));
            refuses("work without a list", NO_SUCH, none, x -> x.work(v, 0));
        }
        for (int way = 0; way < 3; way++) {
            int w = way;
            refuses("fuse without a list", STATE, none, x -> x.fuse(w));
        }
        refuses("fused without fuse", INDEX, none, x -> x.fused(0));
        refuses("rating without fuse", INDEX, none, x -> x.rating(0));
    }

    private static void fusing() {
        for (int way : new int[] {Integer.MIN_VALUE, -1, 3, Integer.MAX_VALUE}) {
            refuses("fuse " + way, ARGUMENT, x -> x.fuse(way));
        }
        for (int i : new int[] {Integer.MIN_VALUE, -1, 16, Integer.MAX_VALUE}) {
            refuses("fused " + i, INDEX, x -> x.fused(i));
            refuses("rating " + i, INDEX, x -> x.rating(i));
        }
    }

    private static void quantising() {
        for (int document : NO_DOCUMENTS) {
            refuses("quantised, document " + document, INDEX, x -> x.quantised(document, 0));
        }
        for (int term : NO_TERMS) {
            refuses("quantised, term " + term, INDEX, x -> x.quantised(0, term));
        }
    }
}
