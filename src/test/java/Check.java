import java.util.List;
import java.util.NoSuchElementException;

/** Counts the answers of one test that are not as due, and ends it. */
final class Check {
    private int wrong;
    private int made;

    void due(String call, long want, long got) {
        made++;
        if (want != got) {
            wrong++;
            System.out.println(call + " answered " + got + ", due is " + want);
        }
    }

    void due(String call, boolean want, boolean got) {
        due(call, want ? 1 : 0, got ? 1 : 0);
    }

    /** That two lists of what was told are the same; the first that is not is printed. */
    void same(String what, List<String> want, List<String> got) {
        made++;
        for (int i = 0; i < Math.max(want.size(), got.size()); i++) {
            String due = i < want.size() ? want.get(i) : "nothing";
            String told = i < got.size() ? got.get(i) : "nothing";
            if (!due.equals(told)) {
                wrong++;
                System.out.println(what + ": " + told + ", due is: " + due);
                return;
            }
        }
    }

    void noElement(String call, Runnable run) {
        throwsJust(call, NoSuchElementException.class, run);
    }

    void badArgument(String call, Runnable run) {
        throwsJust(call, IllegalArgumentException.class, run);
    }

    private void throwsJust(String call, Class<?> want, Runnable run) {
        made++;
        try {
            run.run();
        } catch (RuntimeException e) {
            if (e.getClass() == want) {
                return;
            }
            System.out.println(call + " threw " + e + ", due is " + want);
            wrong++;
            return;
        }
        wrong++;
        System.out.println(call + " threw nothing, due is " + want);
    }

    void end() {
        System.out.println(made + " checks, " + wrong + " wrong");
        if (wrong > 0) {
            System.exit(1);
        }
    }
}
