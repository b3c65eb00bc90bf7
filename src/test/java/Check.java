/** Counts the answers that are not the due ones, and ends the test by them. */
final class Check {
    private int asked = 0;
    private int wrong = 0;

    void due(String what, long got, long want) {
        asked++;
        if (got != want) {
            wrong++;
            System.out.println(what + " answered " + got + ", due is " + want);
        }
    }

    void holds(String what, boolean condition) {
        asked++;
        if (!condition) {
            wrong++;
            System.out.println("does not hold: " + what);
        }
    }

    void finish() {
        System.out.println(asked + " asked, " + wrong + " wrong");
        if (wrong != 0 || asked == 0) {
            System.exit(1);
        }
    }
}
