import java.util.function.IntFunction;

/**
 * Tells all that can be seen of an object in one text, so that two objects can be compared. It makes some 300 calls
 * and ends with changing ones (how many words there are, say, only the next word tells), so it is an object's last use.
 */
final class Probe {
    private static final int[] TERMS = {0, 1, 2, 3, 11};

    private final HybridSearch x;
    private final StringBuilder text = new StringBuilder();

    private Probe(HybridSearch x) {
        this.x = x;
    }

    static String of(HybridSearch x) {
        Probe probe = new Probe(x);
        probe.lists();
        probe.places("fused", i -> Checks.outcome(() -> x.fused(i)));
        probe.places("rating", i -> Checks.outcomeDouble(() -> x.rating(i)));
        probe.impacts();
        probe.searchAll();
        probe.lists();
        probe.sizes();
        return probe.text.toString();
    }

    private void add(String answer) {
        text.append(' ').append(answer);
    }

    private void places(String what, IntFunction<String> place) {
        text.append("; ").append(what);
        for (int i = 0; i <= 16; i++) {
            String answer = place.apply(i);
            add(answer);
            if (answer.startsWith("throws")) {
                return;
            }
        }
    }

    private void lists() {
        for (int v = 0; v < 3; v++) {
            int view = v;
            places("hit", i -> Checks.outcome(() -> x.hit(view, i)));
            places("score", i -> Checks.outcomeDouble(() -> x.score(view, i)));
            places("work", i -> Checks.outcome(() -> x.work(view, i)));
        }
    }

    private void impacts() {
        text.append("; quantised");
        for (int d = 0; d < 16; d++) {
            int document = d;
            for (int term : TERMS) {
                add(Checks.outcome(() -> x.quantised(document, term)));
            }
        }
    }

    private void searchAll() {
        text.append("; search");
        for (int v = 0; v < 3; v++) {
            int view = v;
            add(Checks.outcome(() -> x.search(view, 0, 20, 1)));
        }
    }

    private void sizes() {
        text.append("; sizes");
        add(Checks.outcome(() -> x.word(11)));
        add(Checks.outcome(() -> x.impact(11, 1)));
        add(Checks.outcome(() -> x.vector(0f, 0f, 0f, 0f)));
        add(Checks.outcome(() -> x.centroid(0f, 0f, 0f, 0f)));
        for (int document = 0; document < 16; document++) {
            int d = document;
            add(Checks.outcome(() -> x.token(d, 0f, 0f, 0f, 0f)));
        }
        for (int term : TERMS) {
            add(Checks.outcome(() -> x.count(0, term)));
        }
        add(Checks.outcome(x::document));
    }
}
