/** Counts checks, prints each answer that is not due, and ends the test with its exit code. */
final class Checks {
    private int made;
    private int wrong;
    private String title = "";

    void begin(String newTitle) {
        title = newTitle;
    }

    void due(String call, long got, long want) {
        made++;
        if (got != want) {
            wrong++;
            System.out.println(title + ": " + call + " answered " + got + ", due is " + want);
        }
    }

    void holds(String claim, boolean truth) {
        due(claim, truth ? 1 : 0, 1);
    }

    boolean hasManyWrong() {
        return wrong > 50;
    }

    void end() {
        System.out.println(made + " checks, " + wrong + " wrong");
        if (wrong != 0 || made == 0) {
            System.exit(1);
        }
    }
}
