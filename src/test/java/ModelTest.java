/** Long runs of calls, ordinary and wrong ones, each answer held against the Model's. */
public final class ModelTest {
    private static final int RUNS = 1500;
    private static final int CALLS = 512;

    private final Check check;
    private final int run;
    private final int signs;
    private final int common;
    private final AdaptiveTrees x;
    private final Model m;
    private long seed;

    private ModelTest(Check check, int run) {
        this.check = check;
        this.run = run;
        this.seed = run * 7919L + 17;
        int wanted = run % 3 == 0 ? pick(70) - 2 : 2 + pick(6);
        this.signs = Math.max(2, Math.min(64, wanted));
        this.common = 1 + pick(signs);
        this.x = new AdaptiveTrees(wanted);
        this.m = new Model(wanted);
    }

    public static void main(String[] args) {
        Check check = new Check();
        for (int run = 0; run < RUNS && !check.isWrong(); run++) {
            ModelTest one = new ModelTest(check, run);
            for (int call = 0; call < CALLS && !check.isWrong(); call++) {
                one.anyCall(call);
            }
        }
        check.end("ModelTest");
    }

    /** The same numbers each time: a fault that was seen once is seen again. */
    private int pick(int many) {
        seed = seed * 6364136223846793005L + 1442695040888963407L;
        return (int) ((seed >>> 33) % many);
    }

    /** Mostly one of 0 .. many - 1, now and then one that there is not. */
    private int oneOf(int many) {
        if (pick(60) > 0) {
            return pick(many);
        }
        int[] odd = {-1, many, many + 1, -2, Integer.MAX_VALUE, Integer.MIN_VALUE};
        return odd[pick(odd.length)];
    }

    /** Most calls go to one TREE, so that it comes far. */
    private int tree() {
        return pick(4) > 0 ? run % 4 : oneOf(4);
    }

    private int sign() {
        return pick(5) > 0 ? pick(common) : oneOf(signs);
    }

    private void due(int call, String text, long got, long want) {
        check.due("run " + run + ", call " + call + ", signs " + signs + ": " + text, got, want);
    }

    private void anyCall(int call) {
        int kind = pick(100);
        if (kind < 34) {
            int t = tree(), s = sign();
            due(call, "put(" + t + ", " + s + ")", x.put(t, s), m.put(t, s));
        } else if (kind < 58) {
            int t = tree();
            due(call, "pull(" + t + ")", x.pull(t), m.pull(t));
        } else if (kind < 64) {
            int t = tree();
            boolean bit = pick(2) == 1;
            due(call, "get(" + t + ", " + bit + ")", x.get(t, bit), m.get(t, bit));
        } else if (kind < 68) {
            changeAll(call);
        } else if (kind < 72) {
            keep(call);
        } else {
            ask(call);
        }
    }

    private void changeAll(int call) {
        int kind = pick(12);
        if (kind == 0) {
            int t = oneOf(4), f = oneOf(2);
            due(call, "form(" + t + ", " + f + ")", x.form(t, f), m.form(t, f));
        } else if (kind < 6) {
            int n = pick(5) > 0 ? 8 + pick(60) : new int[] {7, 8, 100000, 100001, 0, -1}[pick(6)];
            due(call, "limit(" + n + ")", x.limit(n), m.limit(n));
        } else if (kind == 6) {
            due(call, "drop()", x.drop(), m.drop());
        } else {
            due(call, "pulled()", x.pulled(), m.pulled());
        }
    }

    private void keep(int call) {
        int slot = oneOf(4), end = oneOf(2), t = tree();
        String of = "(" + slot + ", " + end + ", " + t + ")";
        if (pick(3) > 0) {
            due(call, "save" + of, x.save(slot, end, t), m.save(slot, end, t));
        } else {
            due(call, "restore" + of, x.restore(slot, end, t), m.restore(slot, end, t));
        }
    }

    private void ask(int call) {
        int end = oneOf(2), t = tree(), s = sign();
        String of = "(" + end + ", " + t + ")";
        switch (pick(12)) {
            case 0: due(call, "bits()", x.bits(), m.bits()); break;
            case 1: {
                int i = oneOf(m.bits() + 1);
                due(call, "bit(" + i + ")", x.bit(i), m.bit(i));
                break;
            }
            case 2: due(call, "cost" + of + s, x.cost(end, t, s), m.cost(end, t, s)); break;
            case 3: {
                int i = oneOf(12);
                due(call, "code" + of + s + " " + i, x.code(end, t, s, i), m.code(end, t, s, i));
                break;
            }
            case 4: due(call, "knows" + of + s, x.knows(end, t, s), m.knows(end, t, s)); break;
            case 5: due(call, "escape" + of, x.escape(end, t), m.escape(end, t)); break;
            case 6: due(call, "halved" + of, x.halved(end, t), m.halved(end, t)); break;
            case 7: due(call, "nodes" + of, x.nodes(end, t), m.nodes(end, t)); break;
            case 8: due(call, "well" + of, x.well(end, t), m.well(end, t)); break;
            case 9: due(call, "same(" + t + ")", x.same(t), m.same(t)); break;
            default: {
                int i = oneOf(Math.max(1, m.nodes(end, t))), what = oneOf(4);
                due(call, "node" + of + i + " " + what, Check.node(x, end, t, i, what), m.node(end, t, i, what));
            }
        }
    }
}
