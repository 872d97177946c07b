import java.util.function.DoubleSupplier;
import java.util.function.IntSupplier;

/** Counts what is as due and tells the first twenty that are not; end() exits with 1 if there was one. */
final class Checks {
    private final String name;
    private int right;
    private int wrong;

    Checks(String name) {
        this.name = name;
    }

    void that(String what, boolean holds) {
        if (holds) {
            right++;
        } else {
            wrong++;
            if (wrong <= 20) {
                System.out.println(name + ": " + what);
            }
        }
    }

    void same(String what, String due, String got) {
        that(what + " answered " + got + ", due is " + due, due.equals(got));
    }

    void answers(String what, int due, IntSupplier call) {
        same(what, String.valueOf(due), outcome(call));
    }

    void answersDouble(String what, double due, DoubleSupplier call) {
        same(what, String.valueOf(due), outcomeDouble(call));
    }

    void does(String what, Runnable call) {
        same(what, "done", outcomeVoid(call));
    }

    void refuses(String what, Class<? extends RuntimeException> due, Runnable call) {
        same(what, thrown(due), outcomeVoid(call));
    }

    static String outcome(IntSupplier call) {
        try {
            return String.valueOf(call.getAsInt());
        } catch (RuntimeException e) {
            return thrown(e.getClass());
        }
    }

    // The text of a double is its own: two texts are alike only for the same bits (but for NaNs).
    static String outcomeDouble(DoubleSupplier call) {
        try {
            return String.valueOf(call.getAsDouble());
        } catch (RuntimeException e) {
            return thrown(e.getClass());
        }
    }

    static String outcomeVoid(Runnable call) {
        try {
            call.run();
            return "done";
        } catch (RuntimeException e) {
            return thrown(e.getClass());
        }
    }

    private static String thrown(Class<?> kind) {
        return "throws." + kind.getSimpleName();
    }

    void end() {
        System.out.println(name + ": " + right + " checks right, " + wrong + " wrong");
        if (wrong != 0 || right == 0) {
            System.exit(1);
        }
    }
}
