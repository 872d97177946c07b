import java.util.ArrayList;
import java.util.Comparator;
import java.util.HashSet;
import java.util.List;
import java.util.NoSuchElementException;
import java.util.Set;
import java.util.TreeMap;

/** The document once more, written for plainness with the library's lists: OracleTest holds the class against it. */
final class Oracle {
    private record Hit(int document, double score) {
    }

    private static final class Doc {
        final int[] counts = new int[12];
        final float[] weights = new float[12];
        final List<float[]> tokens = new ArrayList<>();

        int length() {
            int sum = 0;
            for (int c : counts) {
                sum += c;
            }
            return sum;
        }
    }

    private static final class Result {
        List<Hit> hits = new ArrayList<>();
        final int[] work = new int[3];
    }

    private static final Comparator<Hit> ORDER = (a, b) ->
            a.score > b.score ? -1 : a.score < b.score ? 1 : Integer.compare(a.document, b.document);

    private final List<Doc> docs = new ArrayList<>();
    private final List<float[]> centroids = new ArrayList<>();
    private final List<Integer> words = new ArrayList<>();
    private final List<int[]> impacts = new ArrayList<>();
    private final List<float[]> vectors = new ArrayList<>();
    private final TreeMap<Integer, Result> lists = new TreeMap<>();
    private List<Hit> fused = new ArrayList<>();

    private static void index(boolean fine) {
        if (!fine) {
            throw new IndexOutOfBoundsException();
        }
    }

    private static void argument(boolean fine) {
        if (!fine) {
            throw new IllegalArgumentException();
        }
    }

    private static void state(boolean fine) {
        if (!fine) {
            throw new IllegalStateException();
        }
    }

    private static void numbers(float... all) {
        for (float x : all) {
            argument(!Float.isNaN(x) && Math.abs(x) <= 1048576f);
        }
    }

    private void place(int document, int term) {
        index(document >= 0 && document < docs.size() && term >= 0 && term < 12);
    }

    private void changed() {
        lists.clear();
        fused = new ArrayList<>();
    }

    private void changed(int view) {
        lists.remove(view);
        fused = new ArrayList<>();
    }

    int document() {
        state(docs.size() < 16);
        changed();
        docs.add(new Doc());
        return docs.size() - 1;
    }

    int count(int document, int term) {
        place(document, term);
        state(docs.get(document).counts[term] < 1000);
        changed();
        return ++docs.get(document).counts[term];
    }

    void weigh(int document, int term, float weight) {
        place(document, term);
        numbers(weight);
        argument(!(weight < 0));
        changed();
        docs.get(document).weights[term] = weight;
    }

    int token(int document, float a, float b, float c, float d) {
        place(document, 0);
        numbers(a, b, c, d);
        state(docs.get(document).tokens.size() < 4);
        changed();
        docs.get(document).tokens.add(new float[] {a, b, c, d});
        return docs.get(document).tokens.size() - 1;
    }

    int centroid(float a, float b, float c, float d) {
        numbers(a, b, c, d);
        state(centroids.size() < 4);
        changed();
        centroids.add(new float[] {a, b, c, d});
        return centroids.size() - 1;
    }

    void clear() {
        words.clear();
        impacts.clear();
        vectors.clear();
        changed();
    }

    int word(int term) {
        index(term >= 0 && term < 12);
        argument(!words.contains(term));
        state(words.size() < 4);
        changed(0);
        words.add(term);
        return words.size();
    }

    int impact(int term, int weight) {
        index(term >= 0 && term < 12);
        argument(impacts.stream().noneMatch(i -> i[0] == term) && weight >= 1 && weight <= 100);
        state(impacts.size() < 4);
        changed(1);
        impacts.add(new int[] {term, weight});
        return impacts.size();
    }

    int vector(float a, float b, float c, float d) {
        numbers(a, b, c, d);
        state(vectors.size() < 3);
        changed(2);
        vectors.add(new float[] {a, b, c, d});
        return vectors.size();
    }

    double log(double x) {
        if (Double.isNaN(x) || Double.isInfinite(x) || x < 1) {
            return -1;
        }
        double m = x;
        double e = 0;
        for (; m >= 2; m *= 0.5) {
            e += 1;
        }
        double s = (m - 1) / (m + 1);
        double p = s;
        double sum = 0;
        for (int n : new int[] {1, 3, 5, 7, 9, 11, 13, 15, 17, 19}) {
            sum += p / n;
            p *= s * s;
        }
        return 2 * sum + e * 0.6931471805599453;
    }

    int quantised(int document, int term) {
        place(document, term);
        float w = docs.get(document).weights[term];
        float m = 0;
        for (Doc d : docs) {
            for (float other : d.weights) {
                m = Math.max(m, other);
            }
        }
        return w > 0 ? (int) (w / m * 255 + 0.5f) : 0;
    }

    private int terms(int view) {
        return view == 0 ? words.size() : impacts.size();
    }

    private boolean has(int view, int i, int document) {
        return view == 0 ? docs.get(document).counts[words.get(i)] > 0 : quantised(document, impacts.get(i)[0]) > 0;
    }

    private double adds(int view, int i, int document) {
        if (!has(view, i, document)) {
            return 0;
        }
        if (view == 1) {
            return (long) impacts.get(i)[1] * quantised(document, impacts.get(i)[0]);
        }
        int term = words.get(i);
        double n = docs.size();
        double f = docs.stream().filter(d -> d.counts[term] > 0).count();
        double c = docs.get(document).counts[term];
        double l = docs.get(document).length();
        double average = (double) docs.stream().mapToInt(Doc::length).sum() / n;
        double idf = log(1 + (n - f + 0.5) / (f + 0.5));
        return idf * (c * (1.2 + 1)) / (c + 1.2 * (1 - 0.75 + 0.75 * (l / average)));
    }

    private static float product(float[] a, float[] b) {
        float sum = 0;
        for (int n = 0; n < 4; n++) {
            sum += a[n] * b[n];
        }
        return sum;
    }

    private int nearest(float[] v) {
        int best = 0;
        for (int c = 1; c < centroids.size(); c++) {
            if (product(v, centroids.get(c)) > product(v, centroids.get(best))) {
                best = c;
            }
        }
        return best;
    }

    private boolean matches(int view, int document) {
        if (view == 2) {
            return !docs.get(document).tokens.isEmpty() && !vectors.isEmpty();
        }
        for (int i = 0; i < terms(view); i++) {
            if (has(view, i, document)) {
                return true;
            }
        }
        return false;
    }

    private double scoreOf(int view, int document) {
        if (view == 2) {
            float sum = 0;
            for (float[] v : vectors) {
                float greatest = Float.NEGATIVE_INFINITY;
                for (float[] t : docs.get(document).tokens) {
                    greatest = Math.max(greatest, product(v, t));
                }
                sum += greatest;
            }
            return sum;
        }
        double sum = 0;
        for (int i = 0; i < terms(view); i++) {
            sum += adds(view, i, document);
        }
        return sum;
    }

    private boolean candidate(int document) {
        Set<Integer> wanted = new HashSet<>();
        vectors.forEach(v -> wanted.add(nearest(v)));
        return docs.get(document).tokens.stream().anyMatch(t -> wanted.contains(nearest(t)));
    }

    private double bound(int view, int i, int block) {
        double greatest = 0;
        for (int d = block * 4; d < block * 4 + 4 && d < docs.size(); d++) {
            greatest = Math.max(greatest, adds(view, i, d));
        }
        return greatest;
    }

    private static boolean full(List<Hit> list, int k, double bound) {
        return list.size() == k && (k == 0 || bound <= list.get(k - 1).score);
    }

    private static void insert(List<Hit> list, Hit hit, int k) {
        list.add(hit);
        list.sort(ORDER);
        while (list.size() > k) {
            list.remove(list.size() - 1);
        }
    }

    private List<Hit> pruned(int view, int k, int shard, int shards, Result result) {
        List<Hit> list = new ArrayList<>();
        for (int block = 0; block * 4 < docs.size(); block++) {
            List<Integer> own = new ArrayList<>();
            for (int d = block * 4; d < block * 4 + 4 && d < docs.size(); d++) {
                if (d % shards == shard) {
                    own.add(d);
                }
            }
            double whole = 0;
            for (int i = 0; i < terms(view); i++) {
                whole += bound(view, i, block);
            }
            if (own.isEmpty()) {
                continue;
            }
            if (full(list, k, whole)) {
                result.work[1]++;
                continue;
            }
            for (int d : own) {
                double part = 0;
                for (int i = 0; i < terms(view); i++) {
                    part += has(view, i, d) ? bound(view, i, block) : 0;
                }
                if (matches(view, d)) {
                    if (full(list, k, part)) {
                        result.work[2]++;
                    } else {
                        result.work[0]++;
                        insert(list, new Hit(d, scoreOf(view, d)), k);
                    }
                }
            }
        }
        return list;
    }

    int search(int view, int how, int k, int shards) {
        argument(view >= 0 && view <= 2);
        argument(how == 0 || how == 1 && view < 2 || how == 2 && view == 2);
        argument(k >= 0 && k <= 20 && shards >= 1 && shards <= 3);
        state(how != 2 || !centroids.isEmpty());
        Result result = new Result();
        for (int shard = 0; shard < shards; shard++) {
            List<Hit> list = new ArrayList<>();
            if (how == 1) {
                list = pruned(view, k, shard, shards, result);
            } else {
                for (int d = shard; d < docs.size(); d += shards) {
                    if (matches(view, d) && (how == 0 || candidate(d))) {
                        result.work[0]++;
                        insert(list, new Hit(d, scoreOf(view, d)), k);
                    }
                }
            }
            result.hits.addAll(list);
        }
        result.hits.sort(ORDER);
        result.hits = new ArrayList<>(result.hits.subList(0, Math.min(k, result.hits.size())));
        lists.put(view, result);
        fused = new ArrayList<>();
        return result.hits.size();
    }

    private Result list(int view) {
        argument(view >= 0 && view <= 2);
        if (!lists.containsKey(view)) {
            throw new NoSuchElementException();
        }
        return lists.get(view);
    }

    int hit(int view, int i) {
        List<Hit> hits = list(view).hits;
        index(i >= 0 && i < hits.size());
        return hits.get(i).document;
    }

    double score(int view, int i) {
        List<Hit> hits = list(view).hits;
        index(i >= 0 && i < hits.size());
        return hits.get(i).score;
    }

    int work(int view, int what) {
        argument(view >= 0 && view <= 2 && what >= 0 && what <= 2);
        return list(view).work[what];
    }

    int fuse(int way) {
        argument(way >= 0 && way <= 2);
        state(!lists.isEmpty());
        List<Hit> all = new ArrayList<>();
        for (int d = 0; d < docs.size(); d++) {
            double sum = 0;
            int member = 0;
            for (Result result : lists.values()) {
                double least = result.hits.stream().mapToDouble(Hit::score).min().orElse(0);
                double greatest = result.hits.stream().mapToDouble(Hit::score).max().orElse(0);
                for (int r = 1; r <= result.hits.size(); r++) {
                    Hit hit = result.hits.get(r - 1);
                    if (hit.document == d) {
                        member++;
                        sum += way == 0 ? 1.0 / (60 + r)
                                : least == greatest ? 1.0 : (hit.score - least) / (greatest - least);
                    }
                }
            }
            if (member > 0) {
                all.add(new Hit(d, way == 2 ? sum * member : sum));
            }
        }
        all.sort(ORDER);
        fused = all;
        return all.size();
    }

    int fused(int i) {
        index(i >= 0 && i < fused.size());
        return fused.get(i).document;
    }

    double rating(int i) {
        index(i >= 0 && i < fused.size());
        return fused.get(i).score;
    }
}
