import java.util.function.DoubleSupplier;
import java.util.function.IntSupplier;

/** Counts what is as due and tells the first twenty that are not; end() exits with 1 if there was one. */
final class Checks implements Kinds {
    private final String name;
    private int right;
    private int wrong;

    Checks(String name) {
        this.name = name;
    }

    void that(String what, boolean holds) {
        if (holds) {
            right++;
        } else {
            wrong++;
            if (wrong <= 20) {
                System.out.println(name + ": " + what);
            }
        }
    }

    void same(String what, String due, String got) {
        that(what + " answered " + got + ", due is " + due, due.equals(got));
    }

    void answers(String what, int due, IntSupplier call) {
        same(what, String.valueOf(due), outcome(call));
    }

    void answersDouble(String what, double due, DoubleSupplier call) {
        same(what, String.valueOf(due), outcomeDouble(call));
    }

    void does(String what, Runnable call) {
        same(what, "done", outcomeVoid(call));
    }

    void refuses(String what, Class<? extends RuntimeException> due, Runnable call) {
        same(what, thrown(due), outcomeVoid(call));
    }

    /** A view's list has these documents in this order, and no place before or behind them. */
    void found(String what, HybridSearch x, int view, int... documents) {
        for (int i = 0; i < documents.length; i++) {
            int place = i;
            answers(what + ", hit " + i, documents[i], () -> x.hit(view, place));
        }
        for (int place : new int[] {-1, documents.length, Integer.MIN_VALUE, Integer.MAX_VALUE}) {
            refuses(what + ", hit " + place, INDEX, () -> x.hit(view, place));
            refuses(what + ", score " + place, INDEX, () -> x.score(view, place));
        }
    }

    void scored(String what, HybridSearch x, int view, double... scores) {
        for (int i = 0; i < scores.length; i++) {
            int place = i;
            answersDouble(what + ", score " + i, scores[i], () -> x.score(view, place));
        }
    }

    void worked(String what, HybridSearch x, int view, int scored, int skipped, int passed) {
        answers(what + ", scored", scored, () -> x.work(view, 0));
        answers(what + ", skipped", skipped, () -> x.work(view, 1));
        answers(what + ", passed", passed, () -> x.work(view, 2));
    }

    void noLists(String what, HybridSearch x) {
        for (int view = 0; view < 3; view++) {
            noList(what, x, view);
        }
        nothingFused(what, x);
        for (int i = 0; i < 3; i++) {
            int way = i;
            refuses("fuse " + way + " " + what, STATE, () -> x.fuse(way));
        }
    }

    void noList(String what, HybridSearch x, int view) {
        refuses("hit of " + view + " " + what, NO_SUCH, () -> x.hit(view, 0));
        refuses("score of " + view + " " + what, NO_SUCH, () -> x.score(view, 0));
        for (int i = 0; i < 3; i++) {
            int kind = i;
            refuses("work of " + view + " " + what, NO_SUCH, () -> x.work(view, kind));
        }
    }

    /** The latest fuse made these documents in this order, and no place before or behind them. */
    void fused(String what, HybridSearch x, int... documents) {
        for (int i = 0; i < documents.length; i++) {
            int place = i;
            answers(what + ", fused " + i, documents[i], () -> x.fused(place));
        }
        for (int place : new int[] {-1, documents.length, Integer.MIN_VALUE, Integer.MAX_VALUE}) {
            refuses(what + ", fused " + place, INDEX, () -> x.fused(place));
            refuses(what + ", rating " + place, INDEX, () -> x.rating(place));
        }
    }

    void nothingFused(String what, HybridSearch x) {
        fused(what, x);
    }

    void rated(String what, HybridSearch x, double... ratings) {
        for (int i = 0; i < ratings.length; i++) {
            int place = i;
            answersDouble(what + ", rating " + i, ratings[i], () -> x.rating(place));
        }
    }

    static String outcome(IntSupplier call) {
        try {
            return String.valueOf(call.getAsInt());
        } catch (RuntimeException e) {
            return thrown(e.getClass());
        }
    }

    // The text of a double is its own: two texts are alike only for the same bits (but for NaNs).
    static String outcomeDouble(DoubleSupplier call) {
        try {
            return String.valueOf(call.getAsDouble());
        } catch (RuntimeException e) {
            return thrown(e.getClass());
        }
    }

    static String outcomeVoid(Runnable call) {
        try {
            call.run();
            return "done";
        } catch (RuntimeException e) {
            return thrown(e.getClass());
        }
    }

    private static String thrown(Class<?> kind) {
        return "throws." + kind.getSimpleName();
    }

    void end() {
        System.out.println(name + ": " + right + " checks right, " + wrong + " wrong");
        if (wrong != 0 || right == 0) {
            System.exit(1);
        }
    }
}
