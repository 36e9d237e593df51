/** LANGUAGE.md, rule 7: no call throws but node(), for any numbers in any state, also far behind the 512th call. */
public final class NeverThrowsTest extends Check {
    private static final int CALLS = 40000;
    private static final int[] ODD = {-1, -2, 5, 64, 127, 128, 129, 999, 1000, LEAST, LEAST + 1, MOST, MOST - 1};

    private long seed;

    public static void main(String[] args) {
        NeverThrowsTest test = new NeverThrowsTest();
        for (int signs : new int[] {LEAST, 2, 3, 5, 33, 64, MOST}) {
            test.oneObject(signs);
        }
        test.end("NeverThrowsTest");
    }

    private void oneObject(int signs) {
        about(signs + " signs");
        seed = signs + 11L;
        AdaptiveTrees x = new AdaptiveTrees(signs);
        String thrown = "";
        for (int call = 0; call < CALLS && thrown.isEmpty(); call++) {
            try {
                anyCall(x);
            } catch (RuntimeException | StackOverflowError e) {
                thrown = call + " " + e;
            }
        }
        due("calls that throw " + thrown, thrown.isEmpty() ? 0 : 1, 0);
    }

    private int pick(int many) {
        seed = seed * 6364136223846793005L + 1442695040888963407L;
        return (int) ((seed >>> 33) % many);
    }

    private int number(int many) {
        return pick(25) > 0 ? pick(many) : ODD[pick(ODD.length)];
    }

    private void anyCall(AdaptiveTrees x) {
        int end = number(2), t = number(4), sign = number(64), i = number(130);
        switch (pick(24)) {
            case 0: x.form(pick(9) > 0 ? 3 : t, number(2)); break;
            case 1: x.limit(pick(2) > 0 ? 8 + pick(100) : number(100001)); break;
            case 2: x.bit(number(1000)); break;
            case 3: x.drop(); break;
            case 4: case 5: x.get(t, pick(2) > 0); break;
            case 6: case 7: case 8: x.pull(t); break;
            case 9: x.cost(end, t, sign); break;
            case 10: x.code(end, t, sign, i); break;
            case 11: x.knows(end, t, sign); break;
            case 12: x.escape(end, t); break;
            case 13: x.halved(end, t); break;
            case 14: x.nodes(end, t); break;
            case 15: node(x, end, t, i, number(4)); break;
            case 16: x.well(end, t); break;
            case 17: x.same(t); break;
            case 18: x.save(number(4), end, t); break;
            case 19: x.restore(number(4), end, t); break;
            case 20: due("bits", x.bits() >= x.pulled() && x.bits() <= 1000 ? 1 : 0, 1); break;
            default: x.put(t, sign);
        }
    }
}
