import java.util.ArrayList;
import java.util.List;

/** Counts and prints the answers that are not as due. */
final class Check {
    private final List<String> wrong = new ArrayList<>();
    private int made;

    void due(String what, long got, long want) {
        made++;
        if (got != want) {
            wrong.add(what + " answered " + got + ", due is " + want);
        }
    }

    void holds(String what, boolean so) {
        made++;
        if (!so) {
            wrong.add(what);
        }
    }

    /** Ends the test: with exit code 1, if an answer was not as due. */
    void end() {
        for (int i = 0; i < wrong.size() && i < 40; i++) {
            System.out.println(wrong.get(i));
        }
        System.out.println(made + " answers, " + wrong.size() + " not as due");
        if (!wrong.isEmpty() || made == 0) {
            System.exit(1);
        }
    }
}
