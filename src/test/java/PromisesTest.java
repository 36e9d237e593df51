/** Each promise of the document: ordinary calls, the edges that it names, wrong calls. */
public final class PromisesTest extends Check {
    public static void main(String[] args) {
        PromisesTest test = new PromisesTest();
        test.all();
        test.end("PromisesTest");
    }

    private void all() {
        aNewObject();
        form();
        limit();
        put();
        bitsAndBit();
        drop();
        get();
        getRefused();
        pullAndPulled();
        costAndCode();
        knows();
        escape();
        halved();
        nodes();
        node();
        nodesOfSplayed();
        wellAndSame();
        save();
        restore();
        stepsOfCounted();
        stepsOfSplayed();
        codesOfLastSign();
    }

    private void aNewObject() {
        about("1 a new object");
        int[][] signsAndMost = {{2, 2}, {1, 2}, {0, 2}, {-7, 2}, {LEAST, 2}, {3, 3}, {63, 63},
            {64, 64}, {65, 64}, {MOST, 64}};
        for (int[] pair : signsAndMost) {
            AdaptiveTrees x = new AdaptiveTrees(pair[0]);
            due(pair[0] + " signs, the last one", x.knows(WRITER, 0, pair[1] - 1), 0);
            due(pair[0] + " signs, one more", x.knows(WRITER, 0, pair[1]), OUTSIDE);
        }
        int[][] signsAndWidth = {{2, 1}, {3, 2}, {4, 2}, {5, 3}, {8, 3}, {9, 4}, {16, 4}, {17, 5}, {32, 5},
            {33, 6}, {64, 6}};
        for (int[] pair : signsAndWidth) {
            due("width of " + pair[0], new AdaptiveTrees(pair[0]).cost(WRITER, 0, 1), pair[1]);
        }
        AdaptiveTrees x = new AdaptiveTrees(4);
        for (int end = 0; end < 2; end++) {
            for (int t = 0; t < 4; t++) {
                dueNodes(x, end, t, new int[][] {{0, -2, NONE, NONE}});
                due("escape", x.escape(end, t), 0);
                due("halved", x.halved(end, t), 0);
            }
        }
        due("bits", x.bits(), 0);
        due("pulled", x.pulled(), 0);
        for (int slot = 0; slot < 4; slot++) {
            due("slot " + slot, x.restore(slot, WRITER, 0), STATE);
        }
        due("the limit", x.limit(8), 1000);
    }

    private void form() {
        about("2 form");
        AdaptiveTrees x = new AdaptiveTrees(4);
        putAll(x, 1, 0, 0, 1, 1);
        x.pull(1);
        due("to SPLAYED", x.form(1, 1), 0);
        due("nodes, writer", x.nodes(WRITER, 1), 7);
        due("nodes, reader", x.nodes(READER, 1), 7);
        due("another tree", x.nodes(WRITER, 0), 1);
        due("bits stay", x.bits(), 2 + 1 + 3 + 2);
        due("pulled stays", x.pulled(), 2);
        x.put(1, 0);
        x.put(1, 0);
        due("to SPLAYED again", x.form(1, 1), 1);
        dueCode(x, WRITER, 1, 0, "00");
        due("to COUNTED", x.form(1, 0), 1);
        dueNodes(x, WRITER, 1, new int[][] {{0, -2, NONE, NONE}});
        dueNodes(x, READER, 1, new int[][] {{0, -2, NONE, NONE}});
        due("COUNTED again", x.form(1, 0), 0);

        x.save(0, WRITER, 2);
        x.form(2, 1);
        x.restore(0, WRITER, 2);
        due("the writer's FORM is told, not the reader's", x.form(2, 1), 0);

        x.form(0, 0);
        due("get", x.get(0, true), NONE);
        x.form(3, 1);
        due("still in the code behind another tree's form", x.get(1, true), STATE);
        x.form(0, 0);
        due("at a beginning", x.get(3, true), NONE);
        x.form(3, 1);
        due("from the root", x.get(3, false), NONE);
        due("from the root", x.get(3, false), 0);

        for (int t : NO_TREES) {
            due("no tree", x.form(t, 0), UNKNOWN);
            due("no tree, no form", x.form(t, 2), UNKNOWN);
        }
        due("no form", x.form(0, 2), OUTSIDE);
        due("no form", x.form(0, -1), OUTSIDE);
        x.put(0, 1);
        x.form(0, 3);
        due("a refused one changes nothing", x.nodes(WRITER, 0), 3);
    }

    private void limit() {
        about("3 limit");
        AdaptiveTrees x = new AdaptiveTrees(2);
        due("first", x.limit(100000), 1000);
        due("next", x.limit(8), 100000);
        due("7", x.limit(7), OUTSIDE);
        due("100001", x.limit(100001), OUTSIDE);
        due("least int", x.limit(LEAST), OUTSIDE);
        due("most int", x.limit(MOST), OUTSIDE);
        due("8 is still there", x.limit(9), 8);
        putAll(x, 0, 0, 0, 0, 0, 0, 0, 0, 0);
        due("8 steps are below 9", x.halved(WRITER, 0), 0);
        x.limit(8);
        due("no step, not halved", x.halved(WRITER, 0), 0);
        due("no step, root", node(x, WRITER, 0, 0, 0), 8);
        x.put(0, 0);
        due("the root has 9, more than the limit", x.halved(WRITER, 0), 1);
        due("half of 9, rounded up", node(x, WRITER, 0, 0, 0), 5);
        for (int i = 0; i < 8; i++) {
            x.pull(0);
        }
        due("the reader's too", x.halved(READER, 0), 1);
    }

    private void put() {
        about("4 put");
        AdaptiveTrees x = new AdaptiveTrees(5);
        due("new", x.put(0, 4), 3);
        due("known", x.put(0, 4), 1);
        due("escape and number", x.put(0, 3), 4);
        int[] want = {1, 0, 0, 0, 1, 0, 1, 1};
        due("bits", x.bits(), want.length);
        for (int i = 0; i < want.length; i++) {
            due("bit " + i, x.bit(i), want[i]);
        }
        due("the reader's stays", x.nodes(READER, 0), 1);
        due("another tree's stays", x.nodes(WRITER, 1), 1);
        due("in another tree", x.put(1, 3), 3);
        for (int t : NO_TREES) {
            due("no tree", x.put(t, 0), UNKNOWN);
            due("no tree, no sign", x.put(t, 5), UNKNOWN);
        }
        due("no sign", x.put(0, 5), OUTSIDE);
        due("no sign", x.put(0, -1), OUTSIDE);
        due("refused ones write nothing", x.bits(), want.length + 3);

        x = withBits(1000);
        due("1000 bits", x.bits(), 1000);
        due("one bit more", x.put(3, 0), ROOM);
        due("seven bits more", x.put(3, 1), ROOM);
        due("no sign comes first", x.put(3, 64), OUTSIDE);
        due("no tree comes first", x.put(4, 0), UNKNOWN);
        due("still 1000", x.bits(), 1000);
        due("no step was made", x.knows(WRITER, 3, 1), 0);
        due("no step was made", x.nodes(WRITER, 3), 3);
        due("bit 999", x.bit(999), 0);
        due("bit 1000", x.bit(1000), NONE);
        x.drop();
        due("room again", x.put(3, 0), 1);
    }

    private void bitsAndBit() {
        about("5 bits, 6 bit");
        AdaptiveTrees x = new AdaptiveTrees(8);
        due("bits at first", x.bits(), 0);
        due("bit 0 at first", x.bit(0), NONE);
        x.put(2, 6);
        due("bits", x.bits(), 3);
        due("bit 0", x.bit(0), 1);
        due("bit 1", x.bit(1), 1);
        due("bit 2", x.bit(2), 0);
        due("bit 3", x.bit(3), NONE);
        due("bit -1", x.bit(-1), NONE);
        due("bit of the least int", x.bit(LEAST), NONE);
        due("bit of the most int", x.bit(MOST), NONE);
        x.pull(2);
        due("bits that were taken stay", x.bits(), 3);
        due("bits that were taken stay", x.bit(0), 1);
        x.get(0, true);
        due("get() writes none", x.bits(), 3);
    }

    private void drop() {
        about("7 drop");
        AdaptiveTrees x = new AdaptiveTrees(4);
        due("none", x.drop(), 0);
        putAll(x, 0, 3, 2);
        due("first of the two", x.pull(0), 3);
        x.get(0, true);
        due("drop", x.drop(), 5);
        due("bits", x.bits(), 0);
        due("bit 0", x.bit(0), NONE);
        due("pulled", x.pulled(), 0);
        due("at a beginning: another tree may be read", x.get(1, true), NONE);
        x.drop();
        due("and from the root", x.get(0, false), 3);
        due("the writer's tree stays", x.nodes(WRITER, 0), 5);
        due("the reader's tree stays", x.nodes(READER, 0), 3);
        x.put(0, 3);
        due("what comes behind is read", x.pull(0), 3);
        due("and counted anew", x.pulled(), 1);
    }

    private void get() {
        about("8 get");
        AdaptiveTrees x = new AdaptiveTrees(3);
        due("first bit of a number", x.get(0, true), NONE);
        due("another tree", x.get(1, true), STATE);
        due("another tree by pull", x.pull(1), STATE);
        for (int t : NO_TREES) {
            due("no tree comes first", x.get(t, true), UNKNOWN);
        }
        due("last bit of a number", x.get(0, false), 2);
        due("it made a step", x.nodes(READER, 0), 3);
        due("the writer's did not", x.nodes(WRITER, 0), 1);
        due("a known one", x.get(0, false), 2);
        due("its count", node(x, READER, 0, 1, 0), 2);
        due("to the escape", x.get(0, true), NONE);
        due("0", x.get(0, false), NONE);
        due("0", x.get(0, false), 0);
        due("no bits of pull() were taken", x.pulled(), 0);
        x.form(1, 1);
        due("SPLAYED, 1", x.get(1, true), 0);
        due("SPLAYED, 0", x.get(1, false), NONE);
        due("SPLAYED, in its code", x.get(0, false), STATE);
        due("SPLAYED, 00", x.get(1, false), 1);
        due("it is splayed now", x.get(1, true), 1);

        AdaptiveTrees two = new AdaptiveTrees(2);
        due("a number of one bit", two.get(0, true), 1);
        due("its LEAF", two.get(0, false), 1);
        two.form(1, 1);
        due("two LEAVES below the root", two.get(1, true), 1);
        due("two LEAVES below the root", two.get(1, false), 0);
    }

    private void getRefused() {
        about("8 get, REFUSED");
        AdaptiveTrees x = new AdaptiveTrees(3);
        due("1", x.get(0, true), NONE);
        due("3 is no sign", x.get(0, true), REFUSED);
        due("no step", x.nodes(READER, 0), 1);
        due("at a beginning", x.get(1, false), NONE);
        due("0 is one", x.get(1, false), 0);
        due("escape", x.get(1, true), NONE);
        due("0", x.get(1, false), NONE);
        due("0 is known", x.get(1, false), REFUSED);
        due("no step", node(x, READER, 1, 0, 0), 1);
        due("no step", x.nodes(READER, 1), 3);
        due("at a beginning", x.get(1, false), 0);

        AdaptiveTrees two = new AdaptiveTrees(2);
        two.get(0, false);
        two.get(0, true);
        due("all signs are known now", two.get(0, true), 1);
        due("1", two.get(0, true), NONE);
        due("11", two.get(0, true), NONE);
        due("no number is a new sign", two.get(0, false), REFUSED);
        due("1", two.get(0, true), NONE);
        due("11", two.get(0, true), NONE);
        due("no number is a new sign", two.get(0, true), REFUSED);
    }

    private void pullAndPulled() {
        about("9 pull, 10 pulled");
        AdaptiveTrees x = new AdaptiveTrees(4);
        due("nothing to pull", x.pull(0), NONE);
        due("nothing pulled", x.pulled(), 0);
        putAll(x, 0, 1, 1, 2);
        putAll(x, 2, 3);
        due("1", x.pull(0), 1);
        due("pulled", x.pulled(), 2);
        due("1", x.pull(0), 1);
        due("pulled", x.pulled(), 3);
        due("2", x.pull(0), 2);
        due("pulled", x.pulled(), 6);
        due("3", x.pull(2), 3);
        due("pulled", x.pulled(), 8);
        due("no more", x.pull(2), NONE);
        due("still", x.pulled(), 8);
        due("read as written", x.same(0), 1);
        due("read as written", x.same(2), 1);
        for (int t : NO_TREES) {
            due("no tree", x.pull(t), UNKNOWN);
        }

        x = new AdaptiveTrees(4);
        x.put(0, 2);
        x.get(1, true);
        due("in a code of another tree", x.pull(0), STATE);
        due("no tree comes first", x.pull(7), UNKNOWN);
        due("nothing was taken", x.pulled(), 0);
        due("goes on with what get() began", x.pull(1), 3);
        due("by one bit", x.pulled(), 1);
        due("the code goes on when there are no more", x.pull(2), NONE);
        due("and get() can end it", x.get(2, true), 1);

        // 01, 10, 110, 0: the third one is no CODE of TREE 3, that KNOWS 2 by then.
        x = new AdaptiveTrees(3);
        putAll(x, 0, 1);
        putAll(x, 1, 2);
        putAll(x, 0, 2, 1);
        due("01", x.pull(0), 1);
        due("10", x.pull(3), 2);
        due("110", x.pull(3), REFUSED);
        due("up to the refused one's end", x.pulled(), 7);
        due("no step", x.nodes(READER, 3), 3);
        due("at a beginning, 0", x.pull(0), 1);
        due("all", x.pulled(), 8);
    }

    private void costAndCode() {
        about("11 cost, 12 code");
        AdaptiveTrees x = new AdaptiveTrees(5);
        dueCode(x, WRITER, 0, 4, "100");
        putAll(x, 0, 2, 2, 0);
        dueCode(x, WRITER, 0, 2, "0");
        dueCode(x, WRITER, 0, 0, "10");
        dueCode(x, WRITER, 0, 3, "11011");
        dueCode(x, READER, 0, 3, "011");
        due("bit -1", x.code(WRITER, 0, 3, -1), NONE);
        due("bit of the least int", x.code(WRITER, 0, 3, LEAST), NONE);
        due("bit of the most int", x.code(WRITER, 0, 3, MOST), NONE);
        for (int t : NO_TREES) {
            due("cost, no tree", x.cost(WRITER, t, 9), UNKNOWN);
            due("code, no tree", x.code(WRITER, t, 9, 0), UNKNOWN);
        }
        for (int end : NO_ENDS) {
            due("cost, no end", x.cost(end, 0, 9), UNKNOWN);
            due("code, no end", x.code(end, 0, 9, 0), UNKNOWN);
        }
        for (int sign : new int[] {-1, 5, LEAST, MOST}) {
            due("cost, no sign", x.cost(WRITER, 0, sign), OUTSIDE);
            due("code, no sign", x.code(READER, 0, sign, -1), OUTSIDE);
        }
        x.form(1, 1);
        dueCode(x, READER, 1, 0, "01");
        dueCode(x, READER, 1, 1, "10");
        dueCode(x, READER, 1, 2, "11");
        dueCode(x, READER, 1, 3, "000");
        dueCode(x, READER, 1, 4, "001");
    }

    private void knows() {
        about("13 knows");
        AdaptiveTrees x = new AdaptiveTrees(6);
        due("not yet", x.knows(WRITER, 0, 5), 0);
        x.put(0, 5);
        due("now", x.knows(WRITER, 0, 5), 1);
        due("not another one", x.knows(WRITER, 0, 4), 0);
        due("not the reader", x.knows(READER, 0, 5), 0);
        x.pull(0);
        due("now the reader", x.knows(READER, 0, 5), 1);
        x.form(0, 1);
        for (int sign = 0; sign < 6; sign++) {
            due("SPLAYED", x.knows(READER, 0, sign), 1);
        }
        x.form(0, 0);
        due("as at first", x.knows(WRITER, 0, 5), 0);
        due("no sign", x.knows(WRITER, 0, 6), OUTSIDE);
        due("no sign", x.knows(WRITER, 0, -1), OUTSIDE);
        due("no end", x.knows(2, 0, 6), UNKNOWN);
        due("no end", x.knows(-1, 0, 0), UNKNOWN);
        due("no tree", x.knows(0, 4, 6), UNKNOWN);
        due("no tree", x.knows(0, -1, 0), UNKNOWN);
    }

    private void escape() {
        about("14 escape");
        AdaptiveTrees x = new AdaptiveTrees(3);
        due("alone", x.escape(WRITER, 0), 0);
        x.put(0, 0);
        due("one", x.escape(WRITER, 0), 1);
        x.put(0, 1);
        due("two", x.escape(WRITER, 0), 2);
        x.put(0, 2);
        due("all known, there still", x.escape(WRITER, 0), 3);
        due("the reader's", x.escape(READER, 0), 0);
        x.form(0, 1);
        due("SPLAYED", x.escape(WRITER, 0), NONE);
        due("SPLAYED", x.escape(READER, 0), NONE);
        unknownTrees(x, "escape");
    }

    private void halved() {
        about("15 halved");
        AdaptiveTrees x = new AdaptiveTrees(2);
        x.limit(8);
        putAll(x, 0, 0, 0, 0, 0, 0, 1, 1);
        due("not yet", x.halved(WRITER, 0), 0);
        x.put(0, 1);
        due("once", x.halved(WRITER, 0), 1);
        due("the reader's not", x.halved(READER, 0), 0);
        // 5 and 3 are 3 and 2 now
        dueNodes(x, WRITER, 0, new int[][] {{5, -1, NONE, 1}, {3, 0, 0, NONE}, {2, -1, 0, 3}, {2, 1, 2, NONE},
            {0, -2, 2, NONE}});
        putAll(x, 0, 0, 0, 0);
        due("twice", x.halved(WRITER, 0), 2);
        x.save(0, WRITER, 0);
        x.form(0, 0);
        due("as at first", x.halved(WRITER, 0), 0);
        x.restore(0, READER, 0);
        due("a tree that is taken back", x.halved(READER, 0), 2);
        x.form(1, 1);
        putAll(x, 1, 0, 0, 0, 0, 0, 0, 0, 0, 0);
        due("SPLAYED", x.halved(WRITER, 1), 0);
        unknownTrees(x, "halved");

        // So many SIGNS that half of their COUNTS is no less: each STEP halves once, and not more.
        x = new AdaptiveTrees(64);
        x.limit(8);
        for (int sign = 0; sign < 12; sign++) {
            x.put(0, sign);
        }
        due("each step once", x.halved(WRITER, 0), 5);
        due("more than the limit", node(x, WRITER, 0, 0, 0), 12);
        due("well", x.well(WRITER, 0), 1);
    }

    private void nodes() {
        about("16 nodes");
        AdaptiveTrees x = new AdaptiveTrees(64);
        for (int sign = 0; sign < 64; sign++) {
            due("nodes", x.nodes(WRITER, 0), 2 * sign + 1);
            x.put(0, sign);
        }
        due("all", x.nodes(WRITER, 0), 129);
        x.put(0, 3);
        due("a known one", x.nodes(WRITER, 0), 129);
        due("the reader's", x.nodes(READER, 0), 1);
        x.form(1, 1);
        due("SPLAYED", x.nodes(READER, 1), 127);
        unknownTrees(x, "nodes");
    }

    private void unknownTrees(AdaptiveTrees x, String call) {
        for (int no : NO_TREES) {
            due("no tree", ask(x, call, READER, no), UNKNOWN);
        }
        for (int no : NO_ENDS) {
            due("no end", ask(x, call, no, 0), UNKNOWN);
        }
    }

    private static int ask(AdaptiveTrees x, String call, int end, int t) {
        switch (call) {
            case "escape": return x.escape(end, t);
            case "halved": return x.halved(end, t);
            case "nodes": return x.nodes(end, t);
            default: return x.well(end, t);
        }
    }

    private void node() {
        about("17 node");
        AdaptiveTrees x = new AdaptiveTrees(4);
        putAll(x, 0, 3, 3, 1);
        dueNodes(x, WRITER, 0, new int[][] {{3, -1, NONE, 1}, {2, 3, 0, NONE}, {1, -1, 0, 3}, {1, 1, 2, NONE},
            {0, -2, 2, NONE}});
        int[][] none = {{-1, 0, 0, 0}, {2, 0, 0, 0}, {0, -1, 0, 0}, {0, 4, 0, 0}, {0, 0, -1, 0}, {0, 0, 5, 0},
            {0, 0, 0, -1}, {0, 0, 0, 4}, {1, 0, 1, 0}, {0, 1, 1, 0}, {0, 0, 5, 1}, {0, 0, 5, 2}, {0, 0, 5, 3}};
        for (int[] row : none) {
            due("none such", node(x, row[0], row[1], row[2], row[3]), THROWS);
        }
        for (int far : new int[] {LEAST, MOST}) {
            due("no end", node(x, far, 0, 0, 0), THROWS);
            due("no tree", node(x, 0, far, 0, 0), THROWS);
            due("no node", node(x, 0, 0, far, 0), THROWS);
            due("no what", node(x, 0, 0, 0, far), THROWS);
        }
    }

    private void nodesOfSplayed() {
        about("17 node, SPLAYED");
        AdaptiveTrees x = new AdaptiveTrees(3);
        x.form(3, 1);
        dueNodes(x, READER, 3, new int[][] {{0, -1, NONE, 1}, {0, -1, 0, 3}, {0, 0, 0, NONE}, {0, 1, 1, NONE},
            {0, 2, 1, NONE}});
        due("node 5", node(x, READER, 3, 5, 0), THROWS);
        due("node -1", node(x, READER, 3, -1, 0), THROWS);
        due("what 4", node(x, READER, 3, 0, 4), THROWS);
        x.form(3, 0);
        due("COUNTED, node 1", node(x, READER, 3, 1, 0), THROWS);
        AdaptiveTrees two = new AdaptiveTrees(2);
        two.form(0, 1);
        dueNodes(two, WRITER, 0, new int[][] {{0, -1, NONE, 1}, {0, 0, 0, NONE}, {0, 1, 0, NONE}});
        two.put(0, 1);
        dueNodes(two, WRITER, 0, new int[][] {{0, -1, NONE, 1}, {0, 0, 0, NONE}, {0, 1, 0, NONE}});
    }

    private void wellAndSame() {
        about("18 well, 19 same");
        AdaptiveTrees x = new AdaptiveTrees(5);
        x.form(1, 1);
        x.limit(9);
        due("well at first", x.well(WRITER, 0), 1);
        due("well at first, SPLAYED", x.well(READER, 1), 1);
        for (int i = 0; i < 50; i++) {
            x.put(0, i * i % 5);
            x.put(1, i * 3 % 5);
            due("well", x.well(WRITER, 0), 1);
            due("well, SPLAYED", x.well(WRITER, 1), 1);
        }
        unknownTrees(x, "well");

        x = new AdaptiveTrees(4);
        due("same at first", x.same(3), 1);
        x.put(3, 0);
        due("other nodes", x.same(3), 0);
        x.get(3, false);
        x.get(3, true);
        due("other signs", x.same(3), 0);
        x.form(3, 0);
        due("as at first", x.same(3), 1);
        x.drop();
        putAll(x, 3, 2, 2);
        x.pull(3);
        due("other counts", x.same(3), 0);
        x.pull(3);
        due("same", x.same(3), 1);
        x.form(2, 1);
        due("same, SPLAYED", x.same(2), 1);
        x.put(2, 3);
        due("3 went up and 2 is where it was", x.same(2), 0);
        x.save(0, WRITER, 0);
        x.restore(0, WRITER, 2);
        due("other forms", x.same(2), 0);
        for (int t : NO_TREES) {
            due("no tree", x.same(t), UNKNOWN);
        }
        halvedMoreOftenButSame();
    }

    private void halvedMoreOftenButSame() {
        AdaptiveTrees x = new AdaptiveTrees(2);
        x.limit(8);
        putAll(x, 0, 0, 0, 0, 0, 0, 0, 0, 0);
        x.pull(0);
        for (int i = 0; i < 3; i++) {
            x.pull(0);
        }
        due("halved, writer", x.halved(WRITER, 0), 1);
        due("halved, reader", x.halved(READER, 0), 0);
        due("how often they were halved does not count", x.same(0), 1);
    }

    private void save() {
        about("20 save");
        AdaptiveTrees x = new AdaptiveTrees(3);
        for (int slot = 0; slot < 4; slot++) {
            due("had none", x.save(slot, slot % 2, slot), 0);
            due("had one", x.save(slot, 0, 0), 1);
        }
        for (int no : NO_TREES) {
            due("no slot", x.save(no, 0, 0), UNKNOWN);
            due("no tree", x.save(0, 0, no), UNKNOWN);
        }
        for (int no : NO_ENDS) {
            due("no end", x.save(0, no, 0), UNKNOWN);
        }
        x = new AdaptiveTrees(3);
        x.save(0, 2, 0);
        due("a refused one keeps nothing", x.restore(0, 0, 0), STATE);
        x.put(0, 2);
        x.save(0, WRITER, 0);
        putAll(x, 0, 1, 1);
        x.restore(0, READER, 3);
        due("as it was then", x.nodes(READER, 3), 3);
        due("as it was then", x.knows(READER, 3, 2), 1);
        due("the tree itself goes on", x.nodes(WRITER, 0), 5);
        x.get(3, false);
        x.restore(0, READER, 2);
        due("the slot stays as it is", node(x, READER, 2, 0, 0), 1);
        due("the tree that had it went on", node(x, READER, 3, 0, 0), 2);
        x.save(0, WRITER, 0);
        x.restore(0, READER, 2);
        due("a slot takes a new one", x.nodes(READER, 2), 5);
        x.get(0, true);
        x.save(1, READER, 0);
        due("the reader stays in its code", x.get(0, false), 2);
    }

    private void restore() {
        about("21 restore");
        AdaptiveTrees x = new AdaptiveTrees(4);
        x.form(1, 1);
        x.put(1, 0);
        x.save(3, WRITER, 1);
        due("SPLAYED", x.restore(3, WRITER, 0), 1);
        due("its form", x.escape(WRITER, 0), NONE);
        due("its nodes", x.nodes(WRITER, 0), 7);
        dueCode(x, WRITER, 0, 0, "1");
        due("the reader's stays", x.nodes(READER, 0), 1);
        x.save(2, READER, 2);
        due("COUNTED", x.restore(2, WRITER, 0), 0);
        due("as at first", x.nodes(WRITER, 0), 1);
        due("no SIGN of before is known", x.knows(WRITER, 0, 0), 0);
        due("none there", x.restore(0, WRITER, 0), STATE);
        for (int no : NO_TREES) {
            due("no slot", x.restore(no, 0, 0), UNKNOWN);
            due("no tree", x.restore(0, 0, no), UNKNOWN);
        }
        for (int no : NO_ENDS) {
            due("no end", x.restore(0, no, 0), UNKNOWN);
        }

        due("in a code", x.get(0, true), NONE);
        x.restore(2, WRITER, 0);
        due("the writer's: still in it", x.get(1, true), STATE);
        x.restore(2, READER, 1);
        due("another tree of the reader's: still in it", x.get(1, true), STATE);
        x.restore(0, READER, 0);
        due("refused: still in it", x.get(1, true), STATE);
        x.restore(2, READER, 0);
        due("at a beginning", x.get(1, true), NONE);
        x.restore(3, READER, 1);
        due("of the tree that it is now", x.get(1, true), 0);
        due("bits stay", x.bits(), 2);

        x = new AdaptiveTrees(4);
        putAll(x, 0, 0, 1);
        x.save(0, WRITER, 0);
        x.restore(0, WRITER, 1);
        due("its escape", x.escape(WRITER, 1), 2);
        dueCode(x, WRITER, 1, 3, "1111");
        x.put(1, 3);
        due("it goes on as the one that was kept", x.nodes(WRITER, 1), 7);
        due("well", x.well(WRITER, 1), 1);
    }

    private void stepsOfCounted() {
        about("terms, COUNTED");
        AdaptiveTrees x = new AdaptiveTrees(3);
        x.limit(8);
        putAll(x, 0, 0, 0, 0, 0, 1, 1, 2);
        dueNodes(x, WRITER, 0, new int[][] {{7, -1, NONE, 1}, {4, 0, 0, NONE}, {3, -1, 0, 3}, {2, 1, 2, NONE},
            {1, -1, 2, 5}, {1, 2, 4, NONE}, {0, -2, 4, NONE}});
        x.put(0, 2);
        due("halved", x.halved(WRITER, 0), 1);
        dueNodes(x, WRITER, 0, new int[][] {{4, -1, NONE, 1}, {2, 0, 0, NONE}, {2, -1, 0, 3}, {1, 1, 2, NONE},
            {1, -1, 2, 5}, {1, 2, 4, NONE}, {0, -2, 4, NONE}});
        // 2 changes with 1, and the PARENT that it has then with 0.
        x.put(0, 2);
        dueNodes(x, WRITER, 0, new int[][] {{5, -1, NONE, 1}, {3, -1, 0, 3}, {2, 0, 0, NONE}, {2, 2, 1, NONE},
            {1, -1, 1, 5}, {1, 1, 4, NONE}, {0, -2, 4, NONE}});
        dueCode(x, WRITER, 0, 0, "1");
        dueCode(x, WRITER, 0, 1, "010");
        dueCode(x, WRITER, 0, 2, "00");
        due("escape", x.escape(WRITER, 0), 3);
        due("well", x.well(WRITER, 0), 1);
    }

    private void stepsOfSplayed() {
        about("terms, SPLAYED");
        AdaptiveTrees x = new AdaptiveTrees(5);
        x.form(0, 1);
        putAll(x, 0, 4, 4, 0);
        String[] codes = {"01", "0010", "0011", "000", "1"};
        for (int sign = 0; sign < 5; sign++) {
            dueCode(x, WRITER, 0, sign, codes[sign]);
        }
        // Two changes in one STEP: 1 with 3, and the node above both with 4.
        x.put(0, 1);
        codes = new String[] {"01", "10", "111", "110", "00"};
        for (int sign = 0; sign < 5; sign++) {
            dueCode(x, WRITER, 0, sign, codes[sign]);
        }
        dueNodes(x, WRITER, 0, new int[][] {{0, -1, NONE, 1}, {0, -1, 0, 8}, {0, -1, 3, 7}, {0, -1, 0, 5},
            {0, 0, 1, NONE}, {0, 1, 3, NONE}, {0, 2, 2, NONE}, {0, 3, 2, NONE}, {0, 4, 1, NONE}});
    }

    private void codesOfLastSign() {
        about("terms, 64 SIGNS there and back");
        AdaptiveTrees x = new AdaptiveTrees(64);
        x.form(1, 1);
        x.limit(40);
        for (int i = 0; i < 60; i++) {
            int sign = 63 - i * 7 % 64;
            x.put(i % 2, sign);
            due("read", x.pull(i % 2), sign);
            due("same", x.same(i % 2), 1);
        }
        due("all was pulled", x.pulled(), x.bits());
    }
}
