/** Counts the answers that are not as due, and tells them. */
final class Check {
    private final String name;
    private int wrong = 0;
    private int made = 0;

    Check(String name) {
        this.name = name;
    }

    void due(String call, long want, long got) {
        made++;
        if (got != want) {
            wrong++;
            System.out.println(name + ": " + call + " answered " + got + ", due is " + want);
        }
    }

    /** Every test ends here: a test that compared nothing has failed, too. */
    void end() {
        if (made == 0) {
            System.out.println(name + ": nothing was compared");
        }
        if (wrong != 0 || made == 0) {
            System.exit(1);
        }
    }
}
