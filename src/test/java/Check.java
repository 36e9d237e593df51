/** Counts and prints the answers that are not as due. */
final class Check {
    private int asked = 0;
    private int wrong = 0;

    void due(String call, long got, long want) {
        asked++;
        if (got != want) {
            wrong++;
            System.out.println(call + " answered " + got + ", due is " + want);
        }
    }

    /** For node(): what it throws is told by THROWS. */
    static final long THROWS = Long.MIN_VALUE;

    static long node(AdaptiveTrees x, int end, int t, int i, int what) {
        try {
            return x.node(end, t, i, what);
        } catch (IndexOutOfBoundsException e) {
            return e.getClass() == IndexOutOfBoundsException.class ? THROWS : THROWS + 1;
        }
    }

    boolean isWrong() {
        return wrong > 0;
    }

    void end(String name) {
        System.out.println(name + ": " + asked + " answers, " + wrong + " not as due");
        if (wrong > 0 || asked == 0) {
            System.exit(1);
        }
    }
}
