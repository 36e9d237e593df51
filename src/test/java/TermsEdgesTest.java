/** The edges that the sentences of "What it is" and "Terms" name: a test for each, that says the sentence. */
public final class TermsEdgesTest extends Check {
    public static void main(String[] args) {
        TermsEdgesTest test = new TermsEdgesTest();
        test.numbersThatThereAre();
        test.codes();
        test.stepsOfCounted();
        test.halvings();
        test.splayed();
        test.reader();
        test.end("TermsEdgesTest");
    }

    private void numbersThatThereAre() {
        callsThatAreUsed();
        signsThatThereAre();
        widths();
        endsAndTrees();
        firstLimit();
        mostBits();
    }

    private void codes() {
        shortestAndLongestWay();
        codeOfOneThatIsNotKnown();
    }

    private void stepsOfCounted() {
        escapeAlone();
        firstSignOfATree();
        lastSignOfATree();
        theParentStays();
        leastPlaceOfSeveral();
        onlyOneThatIsAhead();
        upToTheRoot();
    }

    private void halvings() {
        limitOrMore();
        halfRoundedUp();
        onePieceBehindAnother();
        behindTheLastThatIsNotLess();
        asManyPlacesAsBefore();
    }

    private void splayed() {
        knowsAll();
        nodesOfSplayed();
        noParentsParent();
        oneParentsParent();
        severalParentsParents();
    }

    private void reader() {
        lastBitMakesTheStep();
        numberOfNoSign();
        numberOfOneThatIsKnown();
        atABeginningAtFirst();
    }

    private void callsThatAreUsed() {
        about("An object is used for at most 512 calls");
        AdaptiveTrees x = new AdaptiveTrees(2);
        for (int i = 0; i < 256; i++) {
            int sign = i * i % 3;
            int t = i % 2;
            if (i == 0) {
                due("call 1", x.form(1, SPLAYED), 0);
                due("call 2", x.limit(20), 1000);
                continue;
            }
            x.put(t, sign);
            due("call " + (2 * i + 2), x.pull(t), sign);
        }
        x = new AdaptiveTrees(64);
        for (int i = 1; i < 512; i++) {
            x.limit(8 + i);
        }
        due("call 512", x.limit(8), 519);
        x = new AdaptiveTrees(64);
        for (int i = 1; i < 512; i++) {
            x.get(0, true);
        }
        // 6 bits for 63 at first, and then 7 for each that is refused: 511 is 6, 72 times 7, and 1.
        due("call 512, in a CODE", x.get(1, true), STATE);
    }

    private void signsThatThereAre() {
        about("SIGNS are 0 .. n - 1 (n 2 to 64)");
        for (int n = 2; n <= 64; n++) {
            for (int f = 0; f < 2; f++) {
                AdaptiveTrees x = new AdaptiveTrees(n);
                x.form(0, f);
                due("-1 of " + n, x.put(0, -1), OUTSIDE);
                due(n + " of " + n, x.put(0, n), OUTSIDE);
                due("none was written", x.bits(), 0);
                int cost = x.cost(WRITER, 0, 0);
                due("0 of " + n, x.put(0, 0), cost);
                cost = x.cost(WRITER, 0, n - 1);
                due("the last of " + n, x.put(0, n - 1), cost);
                due("0 read", x.pull(0), 0);
                due("the last one read", x.pull(0), n - 1);
            }
        }
    }

    private void widths() {
        about("WIDTH is how many bits can just tell n different numbers (2: 1, 3: 2, .., 64: 6)");
        int[] mostOfWidth = {0, 2, 4, 8, 16, 32, 64};
        for (int width = 1; width <= 6; width++) {
            for (int n = Math.max(2, mostOfWidth[width - 1] + 1); n <= mostOfWidth[width]; n++) {
                AdaptiveTrees x = new AdaptiveTrees(n);
                due("width of " + n, x.cost(WRITER, 0, 0), width);
                due("width of " + n + ", reader", x.cost(READER, 3, n - 1), width);
            }
        }
    }

    private void endsAndTrees() {
        about("Two ENDS, 0 the WRITER, 1 the READER, have TREES 0 .. 3 each, of a FORM, 0 COUNTED or 1 SPLAYED");
        AdaptiveTrees x = new AdaptiveTrees(5);
        for (int t = 0; t < 4; t++) {
            due("form", x.form(t, t % 2), 0);
        }
        putAll(x, 0, 4, 3);
        putAll(x, 2, 1);
        int[] nodes = {5, 9, 3, 9};
        for (int t = 0; t < 4; t++) {
            due("writer's " + t, x.nodes(WRITER, t), nodes[t]);
            due("reader's " + t, x.nodes(READER, t), t % 2 == 0 ? 1 : 9);
            due("end 2", x.nodes(2, t), UNKNOWN);
            due("end -1", x.nodes(-1, t), UNKNOWN);
        }
        for (int end = 0; end < 2; end++) {
            due("tree 4", x.nodes(end, 4), UNKNOWN);
            due("tree -1", x.nodes(end, -1), UNKNOWN);
        }
        due("form 2", x.form(0, 2), OUTSIDE);
        due("form -1", x.form(0, -1), OUTSIDE);
    }

    private void firstLimit() {
        about("LIMIT is 1000 at first");
        due("1000", new AdaptiveTrees(2).limit(8), 1000);
        AdaptiveTrees x = new AdaptiveTrees(2);
        for (int i = 0; i < 500; i++) {
            x.put(0, 0);
        }
        due("500 STEPS are less", x.halved(WRITER, 0), 0);
        due("root", node(x, WRITER, 0, 0, 0), 500);
    }

    private void mostBits() {
        about("BITS are what the WRITER wrote, 1000 at most");
        due("none at first", new AdaptiveTrees(64).bits(), 0);
        AdaptiveTrees x = withBits(1000);
        due("1000", x.bits(), 1000);
        due("the last one is there", x.bit(999), 0);
        due("no more", x.put(3, 0), ROOM);
        due("still 1000", x.bits(), 1000);
        x = new AdaptiveTrees(2);
        x.get(0, true);
        due("what the READER takes is not written", x.bits(), 0);
    }

    private void shortestAndLongestWay() {
        about("THE CODE: the way from the root down to the SIGN's LEAF, a 0 for each first child, a 1 for each second");
        AdaptiveTrees x = new AdaptiveTrees(2);
        x.form(0, SPLAYED);
        dueCode(x, WRITER, 0, 0, "0");
        dueCode(x, WRITER, 0, 1, "1");
        // SIGNS that come backward, one after the other, hang those that came before ever deeper.
        x = new AdaptiveTrees(64);
        x.form(0, SPLAYED);
        for (int i = 0; i <= 128; i++) {
            x.put(0, (64 - i % 64) % 64);
        }
        int deepest = 0;
        for (int sign = 1; sign < 64; sign++) {
            deepest = x.cost(WRITER, 0, sign) > x.cost(WRITER, 0, deepest) ? sign : deepest;
        }
        due("a code of more than 20 bits", x.cost(WRITER, 0, deepest) > 20 ? 1 : 0, 1);
        dueCode(x, WRITER, 0, deepest, wayByNodes(x, 63 + deepest));
    }

    private static String wayByNodes(AdaptiveTrees x, int leaf) {
        StringBuilder way = new StringBuilder();
        for (int at = leaf; at != 0 && way.length() < 64;) {
            int above = (int) node(x, WRITER, 0, at, 2);
            way.insert(0, node(x, WRITER, 0, above, 3) == at ? '0' : '1');
            at = above;
        }
        return way.toString();
    }

    private void codeOfOneThatIsNotKnown() {
        about("In a COUNTED TREE that does not KNOW the SIGN: the way to the ESCAPE, and then the SIGN in WIDTH bits");
        AdaptiveTrees x = new AdaptiveTrees(64);
        dueCode(x, WRITER, 0, 0, "000000");
        dueCode(x, WRITER, 0, 1, "000001");
        dueCode(x, WRITER, 0, 32, "100000");
        dueCode(x, WRITER, 0, 63, "111111");
        x.put(0, 63);
        dueCode(x, WRITER, 0, 63, "0");
        dueCode(x, WRITER, 0, 0, "1000000");
        dueCode(x, WRITER, 0, 62, "1111110");
        x = new AdaptiveTrees(2);
        dueCode(x, READER, 1, 0, "0");
        dueCode(x, READER, 1, 1, "1");
        x.get(1, false);
        dueCode(x, READER, 1, 1, "11");
    }

    private void escapeAlone() {
        about("COUNTED: At first there is the ESCAPE alone, with COUNT 0");
        for (int n : new int[] {2, 3, 64}) {
            AdaptiveTrees x = new AdaptiveTrees(n);
            for (int t = 0; t < 4; t++) {
                dueAsAtFirst(x, WRITER, t);
                dueAsAtFirst(x, READER, t);
            }
            due("no node 1", node(x, WRITER, 0, 1, 0), THROWS);
        }
    }

    private void firstSignOfATree() {
        about("the node that was the ESCAPE gets two children, at the two PLACES behind all others; into an empty TREE");
        AdaptiveTrees x = new AdaptiveTrees(2);
        x.put(0, 1);
        dueNodes(x, WRITER, 0, row(1, -1, NONE, 1), row(1, 1, 0, NONE), row(0, -2, 0, NONE));
        x = new AdaptiveTrees(64);
        dueRead(x, 2, "111111", 63);
        dueNodes(x, READER, 2, row(1, -1, NONE, 1), row(1, 63, 0, NONE), row(0, -2, 0, NONE));
    }

    private void lastSignOfATree() {
        about("the node that was the ESCAPE gets two children; by the last SIGN that there is");
        AdaptiveTrees x = new AdaptiveTrees(2);
        putAll(x, 0, 1, 0);
        dueNodes(x, WRITER, 0, row(2, -1, NONE, 1), row(1, 1, 0, NONE), row(1, -1, 0, 3), row(1, 0, 2, NONE),
                row(0, -2, 2, NONE));
        putAll(x, 0, 0, 1, 0, 1);
        due("then no more come", x.nodes(WRITER, 0), 5);
        x = new AdaptiveTrees(64);
        for (int sign = 63; sign >= 0; sign--) {
            x.put(0, sign);
        }
        due("64 LEAVES, the ESCAPE, 64 above", x.nodes(WRITER, 0), 129);
        due("the ESCAPE stays", node(x, WRITER, 0, 128, 1), -2);
        due("the last one is beside it", node(x, WRITER, 0, 127, 1), 0);
        due("all came once", node(x, WRITER, 0, 0, 0), 64);
    }

    private void theParentStays() {
        about("among the nodes with the same COUNT that are neither it nor its PARENT");
        AdaptiveTrees x = new AdaptiveTrees(3);
        putAll(x, 0, 0, 0);
        // The LEAF and its PARENT, the root, had the same COUNT.
        dueNodes(x, WRITER, 0, row(2, -1, NONE, 1), row(2, 0, 0, NONE), row(0, -2, 0, NONE));
        putAll(x, 0, 1, 1);
        // So had the LEAF of 1 and the node at PLACE 2, that goes no farther than PLACE 2 either.
        dueNodes(x, WRITER, 0, row(4, -1, NONE, 1), row(2, 0, 0, NONE), row(2, -1, 0, 3), row(2, 1, 2, NONE),
                row(0, -2, 2, NONE));
        // Now LEAF 1 changes with LEAF 0, that is ahead of its PARENT and has the same COUNT.
        x.put(0, 1);
        dueNodes(x, WRITER, 0, row(5, -1, NONE, 1), row(3, 1, 0, NONE), row(2, -1, 0, 3), row(2, 0, 2, NONE),
                row(0, -2, 2, NONE));
    }

    private void leastPlaceOfSeveral() {
        about("the one at the least PLACE, if that is ahead of its own one, changes places with it");
        AdaptiveTrees x = new AdaptiveTrees(4);
        putAll(x, 0, 0, 1, 2);
        // The PARENT of LEAF 1 went ahead of LEAF 0, with all that is below.
        dueNodes(x, WRITER, 0, row(3, -1, NONE, 1), row(2, -1, 0, 3), row(1, 0, 0, NONE), row(1, 1, 1, NONE),
                row(1, -1, 1, 5), row(1, 2, 4, NONE), row(0, -2, 4, NONE));
        x.put(0, 2);
        // 2 and 3 had its COUNT and were ahead: it takes PLACE 2, and goes on with the root.
        dueNodes(x, WRITER, 0, row(4, -1, NONE, 1), row(2, -1, 0, 3), row(2, 2, 0, NONE), row(1, 1, 1, NONE),
                row(1, -1, 1, 5), row(1, 0, 4, NONE), row(0, -2, 4, NONE));
    }

    private void onlyOneThatIsAhead() {
        about("if that is ahead of its own one: a node that is behind changes nothing");
        AdaptiveTrees x = new AdaptiveTrees(4);
        putAll(x, 0, 0, 1, 0);
        // LEAF 0 at PLACE 1 and the nodes at PLACES 2 and 3 had the same COUNT.
        dueNodes(x, WRITER, 0, row(3, -1, NONE, 1), row(2, 0, 0, NONE), row(1, -1, 0, 3), row(1, 1, 2, NONE),
                row(0, -2, 2, NONE));
        x.put(0, 0);
        // And here no other node has its COUNT.
        dueNodes(x, WRITER, 0, row(4, -1, NONE, 1), row(3, 0, 0, NONE), row(1, -1, 0, 3), row(1, 1, 2, NONE),
                row(0, -2, 2, NONE));
    }

    private void upToTheRoot() {
        about("then it goes on with the PARENT that it has now, up to the root");
        AdaptiveTrees x = new AdaptiveTrees(64);
        for (int i = 0; i < 100; i++) {
            x.put(0, i * 7 % 64);
            due("the root's COUNT", node(x, WRITER, 0, 0, 0), i + 1);
        }
        due("well", x.well(WRITER, 0), 1);
    }

    private void limitOrMore() {
        about("if the root's COUNT is LIMIT or more, the TREE is HALVED");
        AdaptiveTrees x = new AdaptiveTrees(2);
        x.limit(8);
        putAll(x, 0, 0, 0, 0, 0, 0, 0, 0);
        due("7 is less", x.halved(WRITER, 0), 0);
        due("root", node(x, WRITER, 0, 0, 0), 7);
        x.put(0, 0);
        due("8 is LIMIT", x.halved(WRITER, 0), 1);
        due("root", node(x, WRITER, 0, 0, 0), 4);
        x = new AdaptiveTrees(2);
        for (int i = 0; i < 20; i++) {
            x.put(0, 0);
        }
        x.limit(8);
        x.put(0, 0);
        due("21 is more: once, though 11 is more too", x.halved(WRITER, 0), 1);
        due("root", node(x, WRITER, 0, 0, 0), 11);
        x.put(0, 0);
        due("12 is more: once more", x.halved(WRITER, 0), 2);
        due("root", node(x, WRITER, 0, 0, 0), 6);
        x.put(0, 0);
        due("7 is less", x.halved(WRITER, 0), 2);
    }

    private void halfRoundedUp() {
        about("HALVED: the COUNT of each SIGN's LEAF is half of what it was, rounded up");
        AdaptiveTrees x = new AdaptiveTrees(2);
        x.limit(8);
        putAll(x, 0, 0, 0, 0, 0, 0, 0, 0, 1);
        // 7 and 1: 4, and 1 again, so that it never is 0; the ESCAPE's stays 0.
        dueNodes(x, WRITER, 0, row(5, -1, NONE, 1), row(4, 0, 0, NONE), row(1, -1, 0, 3), row(1, 1, 2, NONE),
                row(0, -2, 2, NONE));
        x = new AdaptiveTrees(2);
        x.limit(8);
        putAll(x, 0, 0, 0, 0, 0, 0, 0, 1, 1);
        // 6 and 2: 3 and 1.
        dueNodes(x, WRITER, 0, row(4, -1, NONE, 1), row(3, 0, 0, NONE), row(1, -1, 0, 3), row(1, 1, 2, NONE),
                row(0, -2, 2, NONE));
    }

    private void onePieceBehindAnother() {
        about("As long as there are two PIECES or more; the one that is left is the root: with two LEAVES alone");
        AdaptiveTrees x = new AdaptiveTrees(64);
        x.limit(9);
        putAll(x, 0, 5, 5, 5, 5, 5, 5, 5, 5, 5);
        due("halved", x.halved(WRITER, 0), 1);
        dueNodes(x, WRITER, 0, row(5, -1, NONE, 1), row(5, 5, 0, NONE), row(0, -2, 0, NONE));
        dueCode(x, WRITER, 0, 5, "0");
        dueCode(x, WRITER, 0, 63, "1111111");
    }

    private void behindTheLastThatIsNotLess() {
        about("a PIECE that is their PARENT comes into the row, behind the last one there whose COUNT is not less");
        AdaptiveTrees x = new AdaptiveTrees(4);
        x.limit(8);
        putAll(x, 0, 0, 1, 2, 3, 0, 1, 2);
        dueNodes(x, WRITER, 0, row(7, -1, NONE, 1), row(4, -1, 0, 3), row(3, -1, 0, 5), row(2, 0, 1, NONE),
                row(2, 1, 1, NONE), row(2, 2, 2, NONE), row(1, -1, 2, 7), row(1, 3, 6, NONE), row(0, -2, 6, NONE));
        x.put(0, 3);
        // All LEAVES have 1 now. 3 and the ESCAPE: 1, behind 2, that has 1 too. 2 and that one: 2, ahead of
        // all, as none has so much. 0 and 1: 2, behind the one with 2.
        due("halved", x.halved(WRITER, 0), 1);
        dueNodes(x, WRITER, 0, row(4, -1, NONE, 1), row(2, -1, 0, 5), row(2, -1, 0, 3), row(1, 0, 2, NONE),
                row(1, 1, 2, NONE), row(1, 2, 1, NONE), row(1, -1, 1, 7), row(1, 3, 6, NONE), row(0, -2, 6, NONE));
    }

    private void asManyPlacesAsBefore() {
        about("HALVED: there are as many PLACES as before");
        AdaptiveTrees x = new AdaptiveTrees(64);
        x.limit(64);
        for (int sign = 0; sign < 63; sign++) {
            x.put(0, sign);
        }
        due("not yet", x.halved(WRITER, 0), 0);
        x.put(0, 63);
        due("all SIGNS, halved", x.halved(WRITER, 0), 1);
        due("places", x.nodes(WRITER, 0), 129);
        due("each COUNT stays 1", node(x, WRITER, 0, 0, 0), 64);
        due("well", x.well(WRITER, 0), 1);
        for (int sign = 0; sign < 64; sign++) {
            due("known", x.knows(WRITER, 0, sign), 1);
        }
        x.put(0, 63);
        due("each STEP halves now", x.halved(WRITER, 0), 2);
        due("2 and 63 times 1, halved", node(x, WRITER, 0, 0, 0), 64);
    }

    private void knowsAll() {
        about("SPLAYED. It KNOWS all SIGNS, and has no ESCAPE");
        for (int n : new int[] {2, 64}) {
            AdaptiveTrees x = new AdaptiveTrees(n);
            x.form(0, SPLAYED);
            for (int sign = 0; sign < n; sign++) {
                due("knows " + sign, x.knows(READER, 0, sign), 1);
            }
            due("escape", x.escape(WRITER, 0), NONE);
            for (int i = 0; i < 2 * n - 1; i++) {
                due("sign of node " + i, node(x, WRITER, 0, i, 1), i < n - 1 ? -1 : i - (n - 1));
            }
        }
    }

    private void nodesOfSplayed() {
        about("Nodes are 0 .. 2 n - 2; those below n - 1 have two children; node k has 2 k + 1 and 2 k + 2");
        for (int n : new int[] {2, 3, 64}) {
            AdaptiveTrees x = new AdaptiveTrees(n);
            x.form(1, SPLAYED);
            due("nodes", x.nodes(WRITER, 1), 2 * n - 1);
            due("node 2 n - 1", node(x, WRITER, 1, 2 * n - 1, 0), THROWS);
            due("root", node(x, WRITER, 1, 0, 2), NONE);
            due("n - 2 has children", node(x, WRITER, 1, n - 2, 3), 2 * n - 3);
            due("n - 1 has none", node(x, WRITER, 1, n - 1, 3), NONE);
            for (int i = 1; i < 2 * n - 1; i++) {
                due("parent of " + i, node(x, WRITER, 1, i, 2), (i - 1) / 2);
            }
        }
    }

    private void noParentsParent() {
        about("SPLAYED, as long as the node has a PARENT that has a PARENT: it has none");
        AdaptiveTrees x = new AdaptiveTrees(2);
        x.form(0, SPLAYED);
        putAll(x, 0, 1, 1, 0, 1);
        dueNodes(x, WRITER, 0, row(0, -1, NONE, 1), row(0, 0, 0, NONE), row(0, 1, 0, NONE));
        x = new AdaptiveTrees(3);
        x.form(0, SPLAYED);
        x.put(0, 0);
        dueNodes(x, WRITER, 0, row(0, -1, NONE, 1), row(0, -1, 0, 3), row(0, 0, 0, NONE), row(0, 1, 1, NONE),
                row(0, 2, 1, NONE));
    }

    private void oneParentsParent() {
        about("SPLAYED, the node, and the other child of its PARENT's PARENT, change places: once");
        AdaptiveTrees x = new AdaptiveTrees(4);
        x.form(0, SPLAYED);
        x.put(0, 0);
        dueNodes(x, WRITER, 0, row(0, -1, NONE, 1), row(0, -1, 0, 2), row(0, -1, 1, 5), row(0, 0, 0, NONE),
                row(0, 1, 1, NONE), row(0, 2, 2, NONE), row(0, 3, 2, NONE));
        // Its PARENT's PARENT is below the root: there it ends.
        x.put(0, 3);
        dueNodes(x, WRITER, 0, row(0, -1, NONE, 1), row(0, -1, 0, 2), row(0, -1, 1, 5), row(0, 0, 0, NONE),
                row(0, 1, 2, NONE), row(0, 2, 2, NONE), row(0, 3, 1, NONE));
        String[] codes = {"1", "001", "000", "01"};
        for (int sign = 0; sign < 4; sign++) {
            dueCode(x, WRITER, 0, sign, codes[sign]);
        }
    }

    private void severalParentsParents() {
        about("SPLAYED, then it goes on from that PARENT's PARENT");
        AdaptiveTrees x = new AdaptiveTrees(9);
        x.form(0, SPLAYED);
        dueCode(x, WRITER, 0, 8, "0001");
        dueCode(x, WRITER, 0, 0, "001");
        // LEAF 16 changes with 8, the other child of node 3; then node 3 with 2, the other child of the root.
        x.put(0, 8);
        dueNodes(x, WRITER, 0, row(0, -1, NONE, 1), row(0, -1, 0, 2), row(0, -1, 1, 5), row(0, -1, 0, 7),
                row(0, -1, 1, 9), row(0, -1, 2, 11), row(0, -1, 2, 13), row(0, -1, 3, 15), row(0, 0, 7, NONE),
                row(0, 1, 4, NONE), row(0, 2, 4, NONE), row(0, 3, 5, NONE), row(0, 4, 5, NONE),
                row(0, 5, 6, NONE), row(0, 6, 6, NONE), row(0, 7, 7, NONE), row(0, 8, 3, NONE));
        dueCode(x, WRITER, 0, 8, "11");
        dueCode(x, WRITER, 0, 7, "100");
        dueCode(x, WRITER, 0, 0, "101");
        dueCode(x, WRITER, 0, 6, "0011");
    }

    private void lastBitMakesTheStep() {
        about("THE READER: with the last one of a SIGN's, its TREE makes a STEP by that SIGN");
        AdaptiveTrees x = new AdaptiveTrees(5);
        dueRead(x, 0, "10", NONE);
        due("no STEP yet", x.nodes(READER, 0), 1);
        due("its last bit", x.get(0, false), 4);
        due("a STEP", x.nodes(READER, 0), 3);
        dueRead(x, 0, "100", NONE);
        due("no STEP yet", node(x, READER, 0, 0, 0), 1);
        due("its last bit", x.get(0, false), 0);
        due("a STEP", node(x, READER, 0, 0, 0), 2);
        x.form(1, SPLAYED);
        dueRead(x, 1, "00", NONE);
        due("no STEP yet", x.same(1), 1);
        due("its last bit", x.get(1, true), 4);
        due("a STEP", x.same(1), 0);
        dueCode(x, READER, 1, 4, "01");
    }

    private void numberOfNoSign() {
        about("Where the number behind the way to the ESCAPE is none of a SIGN, that CODE is REFUSED");
        for (int n = 2; n <= 64; n++) {
            int width = 32 - Integer.numberOfLeadingZeros(n - 1);
            for (int number = 0; number < 1 << width; number++) {
                AdaptiveTrees x = new AdaptiveTrees(n);
                String bits = Integer.toBinaryString((1 << width) + number).substring(1);
                dueRead(x, 0, bits, number < n ? number : REFUSED);
                due("STEPS made", node(x, READER, 0, 0, 0), number < n ? 1 : 0);
                due("at a beginning", x.get(1, false), n == 2 ? 0 : NONE);
            }
        }
        AdaptiveTrees x = new AdaptiveTrees(5);
        dueRead(x, 0, "011", 3);
        dueRead(x, 0, "1101", REFUSED);
        dueRead(x, 0, "1110", REFUSED);
        dueRead(x, 0, "1111", REFUSED);
        due("no STEP", node(x, READER, 0, 0, 0), 1);
        dueRead(x, 0, "1100", 4);
    }

    private void numberOfOneThatIsKnown() {
        about("or one that is KNOWN, that CODE is REFUSED: no STEP is made");
        AdaptiveTrees x = new AdaptiveTrees(4);
        dueRead(x, 0, "11", 3);
        dueRead(x, 0, "111", REFUSED);
        dueNodes(x, READER, 0, row(1, -1, NONE, 1), row(1, 3, 0, NONE), row(0, -2, 0, NONE));
        dueRead(x, 0, "100", 0);
        dueRead(x, 0, "1100", REFUSED);
        dueRead(x, 0, "1111", REFUSED);
        dueRead(x, 0, "1110", 2);
        due("it is AT A BEGINNING", x.get(1, true), NONE);
        due("of another TREE, that does not KNOW it", x.get(1, true), 3);
        x = new AdaptiveTrees(2);
        dueRead(x, 0, "1", 1);
        dueRead(x, 0, "10", 0);
        // All SIGNS are KNOWN: behind the way to the ESCAPE every number is refused.
        dueRead(x, 0, "110", REFUSED);
        dueRead(x, 0, "111", REFUSED);
        due("no STEP", node(x, READER, 0, 0, 0), 2);
    }

    private void atABeginningAtFirst() {
        about("Then (and at first, and where it is told) it is AT A BEGINNING");
        for (int t = 0; t < 4; t++) {
            AdaptiveTrees x = new AdaptiveTrees(3);
            dueRead(x, t, "10", 2);
            due("behind a SIGN", x.get((t + 1) % 4, true), NONE);
            due("in a CODE", x.get(t, true), STATE);
            due("behind one that is refused", x.get((t + 1) % 4, true), REFUSED);
            due("any TREE", x.get(t, false), 2);
        }
    }
}
