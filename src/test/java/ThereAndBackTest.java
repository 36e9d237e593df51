/** The document's first sentence, clause by clause: what the one END writes the other one reads. */
public final class ThereAndBackTest extends Check {
    private long seed = 2026;

    public static void main(String[] args) {
        ThereAndBackTest test = new ThereAndBackTest();
        test.all();
        test.end("ThereAndBackTest");
    }

    private void all() {
        int[] manySigns = {2, 3, 4, 5, 8, 13, 26, 33, 64};
        for (int signs : manySigns) {
            countedTrees(signs);
            splayedTrees(signs);
            halvedNowAndThen(signs);
            severalContexts(signs);
            keptAndTakenBack(signs);
            readLongAfter(signs);
        }
    }

    /** The same numbers each time; small ones come more often, so that TREES have something to learn. */
    private int anySign(int signs) {
        seed = seed * 6364136223846793005L + 1442695040888963407L;
        int wide = (int) ((seed >>> 33) % signs);
        seed = seed * 6364136223846793005L + 1442695040888963407L;
        return (int) ((seed >>> 33) % (wide + 1));
    }

    /** Writes and reads one SIGN; BITS go when they are read, so that ROOM is never short. */
    private void thereAndBack(AdaptiveTrees x, int t, int sign) {
        int cost = x.cost(READER, t, sign);
        due("put", x.put(t, sign), cost);
        due("pull", x.pull(t), sign);
        due("same", x.same(t), 1);
        due("drop", x.drop(), cost);
    }

    private void countedTrees(int signs) {
        about(signs + " SIGNS: trees whose nodes stand in the order of how often signs came, with an escape");
        AdaptiveTrees x = new AdaptiveTrees(signs);
        int[] came = new int[signs];
        for (int i = 0; i < 45; i++) {
            int sign = anySign(signs);
            thereAndBack(x, 0, sign);
            came[sign]++;
        }
        int nodes = x.nodes(READER, 0);
        for (int i = 0; i < nodes; i++) {
            int sign = (int) node(x, READER, 0, i, 1);
            if (sign >= 0) {
                due("how often " + sign + " came", node(x, READER, 0, i, 0), came[sign]);
            }
        }
        due("all that came", node(x, READER, 0, 0, 0), 45);
        due("the order", x.well(READER, 0), 1);
        // The ESCAPE did never come: it stands behind all others.
        due("the escape", node(x, READER, 0, nodes - 1, 1), -2);
    }

    private void splayedTrees(int signs) {
        about(signs + " SIGNS: trees that are splayed");
        AdaptiveTrees x = new AdaptiveTrees(signs);
        x.form(3, SPLAYED);
        for (int i = 0; i < 100; i++) {
            int sign = anySign(signs);
            int before = x.cost(WRITER, 3, sign);
            // Each change of places on the way halves what is left of it, rounded up.
            x.put(3, sign);
            due("cost of " + sign, x.cost(WRITER, 3, sign), (before + 1) / 2);
            due("pull", x.pull(3), sign);
            if (x.bits() > 900) {
                due("all was pulled", x.pulled(), x.drop());
            }
        }
        due("same", x.same(3), 1);
        due("well", x.well(READER, 3), 1);
    }

    private void halvedNowAndThen(int signs) {
        about(signs + " SIGNS: halved now and then");
        AdaptiveTrees x = new AdaptiveTrees(signs);
        x.limit(8 + signs);
        for (int i = 0; i < 95; i++) {
            thereAndBack(x, 1, anySign(signs));
        }
        due("was it halved", x.halved(WRITER, 1) > 0 ? 1 : 0, 1);
        due("as often at both ENDS", x.halved(READER, 1), x.halved(WRITER, 1));
        due("the root is below the LIMIT", node(x, READER, 1, 0, 0) < 8 + signs ? 1 : 0, 1);
        due("well", x.well(READER, 1), 1);
    }

    private void severalContexts(int signs) {
        about(signs + " SIGNS: several trees, for several contexts");
        AdaptiveTrees x = new AdaptiveTrees(signs);
        x.form(1, SPLAYED);
        x.form(2, SPLAYED);
        x.limit(20);
        int context = 0;
        for (int i = 0; i < 90; i++) {
            int sign = anySign(signs);
            thereAndBack(x, context, sign);
            context = sign % 4;
        }
        for (int t = 0; t < 4; t++) {
            due("same, TREE " + t, x.same(t), 1);
            due("well, TREE " + t, x.well(READER, t), 1);
        }
    }

    private void keptAndTakenBack(int signs) {
        about(signs + " SIGNS: trees that are kept and taken back");
        AdaptiveTrees x = new AdaptiveTrees(signs);
        x.limit(9);
        for (int i = 0; i < 30; i++) {
            thereAndBack(x, 0, anySign(signs));
        }
        x.save(2, READER, 0);
        int halvedThen = x.halved(READER, 0);
        for (int i = 0; i < 20; i++) {
            thereAndBack(x, 0, anySign(signs));
        }
        // The WRITER goes on from what the READER's was, in another TREE; so must the READER.
        due("restore", x.restore(2, WRITER, 3), COUNTED);
        due("same", x.same(3), 0);
        due("restore", x.restore(2, READER, 3), COUNTED);
        due("same", x.same(3), 1);
        due("halved", x.halved(WRITER, 3), halvedThen);
        for (int i = 0; i < 20; i++) {
            thereAndBack(x, 3, anySign(signs));
        }
    }

    private void readLongAfter(int signs) {
        about(signs + " SIGNS: all is written first, and read long after");
        AdaptiveTrees x = new AdaptiveTrees(signs);
        x.form(1, SPLAYED);
        x.limit(30);
        int[] wrote = new int[100];
        for (int i = 0; i < wrote.length; i++) {
            wrote[i] = anySign(signs);
            due("there is ROOM", x.put(i % 3, wrote[i]) > 0 ? 1 : 0, 1);
        }
        for (int i = 0; i < wrote.length; i++) {
            due("pull", x.pull(i % 3), wrote[i]);
        }
        due("nothing is left", x.pulled(), x.bits());
        for (int t = 0; t < 4; t++) {
            due("same, TREE " + t, x.same(t), 1);
        }
    }
}
