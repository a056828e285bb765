/** Counts the answers that are not the ones that are due, and prints each. */
final class Due {
    private int wrong = 0;
    private int asked = 0;

    void is(String call, long got, long want) {
        asked++;
        if (got != want) {
            wrong++;
            if (wrong <= 50) System.out.println(call + " answered " + got + ", due is " + want);
        }
    }

    void isTrue(String what, boolean holds) {
        asked++;
        if (!holds) {
            wrong++;
            if (wrong <= 50) System.out.println("does not hold: " + what);
        }
    }

    boolean hasWrong() {
        return wrong > 0;
    }

    void end() {
        System.out.println(asked + " looked at, " + wrong + " wrong");
        if (wrong > 0 || asked == 0) System.exit(1);
    }
}
