/** Collects the answers that are not the ones that are due. */
final class Due {
    private int wrong = 0;
    private int asked = 0;
    private String heading = "";
    private boolean isHeadingTold = true;

    /** What the next answers are asked for; it is told only if one of them is wrong. */
    void under(String what) {
        heading = what;
        isHeadingTold = false;
    }

    void is(String what, long got, long want) {
        asked++;
        if (got != want) {
            wrong++;
            tellHeading();
            System.out.println(what + " answered " + got + ", due is " + want);
        }
    }

    private void tellHeading() {
        if (!isHeadingTold) {
            isHeadingTold = true;
            System.out.println(heading);
        }
    }

    /** A row of answers at once, each named by its place. */
    void row(String what, long[] got, long... want) {
        is(what + ", how many", got.length, want.length);
        for (int k = 0; k < got.length && k < want.length; k++) {
            is(what + ", place " + k, got[k], want[k]);
        }
    }

    boolean isWrong() {
        return wrong != 0;
    }

    void end() {
        System.out.println(wrong == 0 ? asked + " answers are as due" : wrong + " answers are not as due");
        if (wrong != 0) {
            System.exit(1);
        }
    }
}
