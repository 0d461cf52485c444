/** Counts answers that are not the due ones; a test ends with finish(). */
final class Checks {
    private int wrong = 0;
    private int asked = 0;

    void due(String call, long got, long want) {
        asked++;
        if (got != want) {
            wrong++;
            System.out.println(call + " answered " + got + ", due is " + want);
        }
    }

    void holds(String claim, boolean isSo) {
        due(claim, isSo ? 1 : 0, 1);
    }

    boolean anyWrong() {
        return wrong > 0;
    }

    void finish() {
        System.out.println(asked + " answers looked at, " + wrong + " not as due");
        if (wrong != 0) {
            System.exit(1);
        }
    }
}
