import java.util.Arrays;

/** Counts and prints the answers that are not as due; with what the tests ask again and again. */
class Check {
    static final int NONE = -1, UNKNOWN = -2, OUTSIDE = -3, STATE = -4, ROOM = -5, REFUSED = -6;
    static final int WRITER = 0, READER = 1;
    static final int COUNTED = 0, SPLAYED = 1;
    static final int LEAST = Integer.MIN_VALUE, MOST = Integer.MAX_VALUE;
    /** Numbers of which there is no TREE and no slot, and of which there is no END. */
    static final int[] NO_TREES = {-1, 4, LEAST, MOST}, NO_ENDS = {-1, 2, LEAST, MOST};
    /** For node(): what it throws is told by THROWS. */
    static final long THROWS = Long.MIN_VALUE;

    private int asked = 0;
    private int wrong = 0;
    private int askedBefore = 0;
    private String about = "";

    /** What the answers from here on are about: a promise, or a sentence of the document. */
    final void about(String text) {
        if (!about.isEmpty() && asked == askedBefore) {
            wrong++;
            System.out.println(about + ": nothing was asked");
        }
        about = text;
        askedBefore = asked;
    }

    final void due(String call, long got, long want) {
        asked++;
        if (got != want) {
            wrong++;
            System.out.println((about.isEmpty() ? "" : about + ": ") + call + " answered " + got + ", due is " + want);
        }
    }

    static long node(AdaptiveTrees x, int end, int t, int i, int what) {
        try {
            return x.node(end, t, i, what);
        } catch (IndexOutOfBoundsException e) {
            return e.getClass() == IndexOutOfBoundsException.class ? THROWS : THROWS + 1;
        }
    }

    final void dueCode(AdaptiveTrees x, int end, int t, int sign, String want) {
        due("cost of " + sign, x.cost(end, t, sign), want.length());
        for (int i = 0; i < want.length(); i++) {
            due("code of " + sign + ", bit " + i, x.code(end, t, sign, i), want.charAt(i) - '0');
        }
        due("code of " + sign + ", behind it", x.code(end, t, sign, want.length()), NONE);
    }

    /** A row is COUNT, SIGN, PARENT, first child. */
    final void dueNodes(AdaptiveTrees x, int end, int t, int[]... rows) {
        due("nodes", x.nodes(end, t), rows.length);
        for (int i = 0; i < rows.length; i++) {
            for (int what = 0; what < 4; what++) {
                due("node " + i + ", " + what, node(x, end, t, i, what), rows[i][what]);
            }
        }
    }

    final void dueAsAtFirst(AdaptiveTrees x, int end, int t) {
        dueNodes(x, end, t, row(0, -2, NONE, NONE));
        due("escape", x.escape(end, t), 0);
        due("halved", x.halved(end, t), 0);
    }

    final void dueBits(AdaptiveTrees x, String want) {
        due("bits", x.bits(), want.length());
        for (int i = 0; i < want.length(); i++) {
            due("bit " + i, x.bit(i), want.charAt(i) - '0');
        }
        due("bit behind all", x.bit(want.length()), NONE);
    }

    /** All bits but the last one answer NONE, the last one what is due. */
    final void dueRead(AdaptiveTrees x, int t, String bits, int want) {
        for (int i = 0; i < bits.length(); i++) {
            boolean last = i == bits.length() - 1;
            due("bit " + i + " of " + bits, x.get(t, bits.charAt(i) == '1'), last ? want : NONE);
        }
    }

    static int[] row(int... numbers) {
        return numbers;
    }

    static void putAll(AdaptiveTrees x, int t, int... signs) {
        for (int sign : signs) {
            x.put(t, sign);
        }
    }

    /** So many BITS (20 or more) in a new object of 64 SIGNS, in less than 200 calls. */
    static AdaptiveTrees withBits(int many) {
        AdaptiveTrees x = new AdaptiveTrees(64);
        writeUpTo(x, many);
        return x;
    }

    /** Writes in TREE 3, then in TREE 0, then the one bit of SIGN 0 in TREE 3; answers the TREES, one by one. */
    static int[] writeUpTo(AdaptiveTrees x, int many) {
        int[] trees = new int[200];
        int puts = 1;
        x.form(0, SPLAYED);
        trees[0] = 3;
        int written = x.put(3, 0);
        while (written < many - 20) {
            written += x.put(0, puts * 29 % 64);
            puts++;
        }
        while (written < many) {
            trees[puts] = 3;
            written += x.put(3, 0);
            puts++;
        }
        return Arrays.copyOf(trees, puts);
    }

    final boolean isWrong() {
        return wrong > 0;
    }

    final void end(String name) {
        about("");
        System.out.println(name + ": " + asked + " answers, " + wrong + " not as due");
        if (wrong > 0 || asked == 0) {
            System.exit(1);
        }
    }
}
