/** The edges that the sentences of promises 1 to 21 name: a test for each, that says the sentence. */
public final class CallsEdgesTest extends Check {
    public static void main(String[] args) {
        CallsEdgesTest test = new CallsEdgesTest();
        test.newObject();
        test.formAndLimit();
        test.writing();
        test.reading();
        test.asking();
        test.lookingAtTrees();
        test.keeping();
        test.end("CallsEdgesTest");
    }

    private void newObject() {
        tooFewSigns();
        tooManySigns();
        allTreesAsAtFirst();
    }

    private void formAndLimit() {
        formAsAtFirst();
        formInACodeOfIt();
        formThatTheWritersHad();
        formRefused();
        limitsThatThereAre();
        limitFromNowOn();
    }

    private void writing() {
        putJustFits();
        putDoesNotFit();
        putRefused();
        bitsThatThereAre();
        bitThatThereIsNot();
        dropOfNone();
        dropOfAll();
        dropInACode();
    }

    private void reading() {
        getOfATree();
        getInACodeOfAnother();
        pullWithNone();
        pullInPieces();
        pullRefusedCode();
        pullInACodeOfAnother();
        pulledBits();
    }

    private void asking() {
        costOfSigns();
        codeThatHasNoSuchBit();
        knowsOrNot();
        escapeOrNone();
        halvedSinceAtFirst();
    }

    private void lookingAtTrees() {
        nodesLeastAndMost();
        nodeThatThereIsNot();
        nodeNumbers();
        wellAtTheEdges();
        sameOrNot();
    }

    private void keeping() {
        slotsThatThereAre();
        saveAsItIsNow();
        restoreOfNone();
        restoreWithAll();
        restoreInACodeOfIt();
    }

    private void tooFewSigns() {
        about("Promise 1: So many SIGNS (2, if it is less)");
        for (int signs : new int[] {2, 1, 0, -1, -2, -64, LEAST}) {
            AdaptiveTrees x = new AdaptiveTrees(signs);
            due(signs + ": 1 is a SIGN", x.put(0, 1), 1);
            due(signs + ": 2 is none", x.put(0, 2), OUTSIDE);
            x.form(1, SPLAYED);
            due(signs + ": nodes", x.nodes(READER, 1), 3);
        }
    }

    private void tooManySigns() {
        about("Promise 1: So many SIGNS (64, if it is more)");
        for (int signs : new int[] {64, 65, 66, 128, 1000, MOST}) {
            AdaptiveTrees x = new AdaptiveTrees(signs);
            due(signs + ": 63 is a SIGN", x.put(0, 63), 6);
            due(signs + ": 64 is none", x.put(0, 64), OUTSIDE);
            x.form(1, SPLAYED);
            due(signs + ": nodes", x.nodes(READER, 1), 127);
        }
        AdaptiveTrees x = new AdaptiveTrees(63);
        due("63: 62 is a SIGN", x.put(0, 62), 6);
        due("63: 63 is none", x.put(0, 63), OUTSIDE);
    }

    private void allTreesAsAtFirst() {
        about("Promise 1: all TREES COUNTED, as at first");
        for (int signs : new int[] {LEAST, 2, 64, MOST}) {
            AdaptiveTrees x = new AdaptiveTrees(signs);
            for (int t = 0; t < 4; t++) {
                dueAsAtFirst(x, WRITER, t);
                dueAsAtFirst(x, READER, t);
                due("same", x.same(t), 1);
                due("form", x.form(t, COUNTED), COUNTED);
            }
            due("no BITS", x.bits(), 0);
            due("none taken", x.pulled(), 0);
            due("LIMIT", x.limit(8), 1000);
        }
    }

    private void formAsAtFirst() {
        about("Promise 2: TREE t of both ENDS is of a FORM, as at first");
        AdaptiveTrees x = new AdaptiveTrees(3);
        x.limit(8);
        for (int i = 0; i < 9; i++) {
            x.put(2, i % 3);
            x.pull(2);
        }
        due("halved before", x.halved(READER, 2), 1);
        due("COUNTED to COUNTED", x.form(2, COUNTED), COUNTED);
        dueAsAtFirst(x, WRITER, 2);
        dueAsAtFirst(x, READER, 2);
        due("to SPLAYED", x.form(2, SPLAYED), COUNTED);
        putAll(x, 2, 2, 1);
        due("SPLAYED to SPLAYED", x.form(2, SPLAYED), SPLAYED);
        for (int end = 0; end < 2; end++) {
            dueNodes(x, end, 2, row(0, -1, NONE, 1), row(0, -1, 0, 3), row(0, 0, 0, NONE), row(0, 1, 1, NONE),
                    row(0, 2, 1, NONE));
        }
        due("back to COUNTED", x.form(2, COUNTED), SPLAYED);
        dueAsAtFirst(x, WRITER, 2);
        dueAsAtFirst(x, READER, 2);
        due("LIMIT stays", x.limit(9), 8);
    }

    private void formInACodeOfIt() {
        about("Promise 2: If the READER is in a CODE of it, it is AT A BEGINNING");
        AdaptiveTrees x = new AdaptiveTrees(4);
        due("in a number", x.get(0, true), NONE);
        x.form(0, COUNTED);
        dueRead(x, 0, "01", 1);
        due("on the way", x.get(0, true), NONE);
        x.form(0, COUNTED);
        due("another TREE may be read", x.get(1, true), NONE);
        x.form(1, SPLAYED);
        due("on the way, SPLAYED", x.get(1, true), NONE);
        x.form(1, SPLAYED);
        dueRead(x, 1, "00", 0);

        due("in a CODE of 0", x.get(0, true), NONE);
        x.form(1, COUNTED);
        due("still in it behind another one's form()", x.get(1, true), STATE);
        x.form(0, 2);
        due("still in it behind a refused form()", x.get(1, true), STATE);
        due("where it was", x.get(0, true), 3);
    }

    private void formThatTheWritersHad() {
        about("Promise 2: Answers the FORM that the WRITER's had");
        AdaptiveTrees x = new AdaptiveTrees(4);
        x.form(1, SPLAYED);
        x.save(0, WRITER, 1);
        x.restore(0, READER, 2);
        due("the READER's alone is SPLAYED", x.form(2, SPLAYED), COUNTED);
        x.restore(0, WRITER, 3);
        due("the WRITER's alone is SPLAYED", x.form(3, COUNTED), SPLAYED);
        due("both are COUNTED now", x.escape(READER, 3), 0);
    }

    private void formRefused() {
        about("Promise 2: UNKNOWN; OUTSIDE");
        AdaptiveTrees x = new AdaptiveTrees(4);
        for (int t : NO_TREES) {
            due("tree " + t, x.form(t, COUNTED), UNKNOWN);
            due("tree " + t + ", no FORM", x.form(t, 2), UNKNOWN);
        }
        for (int f : new int[] {-1, 2, LEAST, MOST}) {
            due("form " + f, x.form(0, f), OUTSIDE);
            due("form " + f, x.form(3, f), OUTSIDE);
        }
        due("still COUNTED", x.form(0, SPLAYED), COUNTED);
    }

    private void limitsThatThereAre() {
        about("Promise 3: LIMIT (8 .. 100000); OUTSIDE; Answers what it was");
        AdaptiveTrees x = new AdaptiveTrees(2);
        for (int n : new int[] {7, 0, -8, LEAST, 100001, 1000000, MOST}) {
            due("limit " + n, x.limit(n), OUTSIDE);
        }
        due("8", x.limit(8), 1000);
        due("7", x.limit(7), OUTSIDE);
        due("100000", x.limit(100000), 8);
        due("100001", x.limit(100001), OUTSIDE);
        due("9", x.limit(9), 100000);
        due("9 again", x.limit(9), 9);
    }

    private void limitFromNowOn() {
        about("Promise 3: for all STEPS from now on");
        AdaptiveTrees x = new AdaptiveTrees(2);
        for (int i = 0; i < 10; i++) {
            x.put(0, 0);
        }
        x.limit(10);
        due("no STEP, not HALVED", x.halved(WRITER, 0), 0);
        x.save(0, WRITER, 0);
        x.restore(0, WRITER, 1);
        x.restore(0, READER, 2);
        due("no STEP, not HALVED", x.halved(WRITER, 1), 0);
        x.put(1, 0);
        due("any TREE", x.halved(WRITER, 1), 1);
        x.get(2, false);
        due("both ENDS", x.halved(READER, 2), 1);
        x.limit(100000);
        x.put(0, 0);
        due("11 is less", x.halved(WRITER, 0), 0);
        x.limit(7);
        x.put(0, 0);
        due("a refused one holds for no STEP", x.halved(WRITER, 0), 0);
    }

    private void putJustFits() {
        about("Promise 4: ROOM: there would be more than 1000 BITS; there would be just 1000");
        AdaptiveTrees x = withBits(999);
        due("999", x.bits(), 999);
        due("one bit", x.put(3, 0), 1);
        due("1000", x.bits(), 1000);
        x = new AdaptiveTrees(64);
        int[] trees = writeUpTo(x, 994);
        due("994", x.bits(), 994);
        due("six bits", x.put(2, 63), 6);
        due("1000", x.bits(), 1000);
        due("a STEP", x.knows(WRITER, 2, 63), 1);
        due("the last one", x.bit(999), 1);
        for (int t : trees) {
            x.pull(t);
        }
        due("read", x.pull(2), 63);
    }

    private void putDoesNotFit() {
        about("Promise 4: ROOM: there would be more than 1000 BITS");
        AdaptiveTrees x = withBits(1000);
        due("one bit", x.put(3, 0), ROOM);
        due("six bits", x.put(2, 0), ROOM);
        x = withBits(995);
        due("995", x.bits(), 995);
        due("six bits", x.put(2, 63), ROOM);
        due("no bit of it is written", x.bits(), 995);
        due("BIT 995", x.bit(995), NONE);
        due("no STEP", x.nodes(WRITER, 2), 1);
        due("seven bits", x.put(3, 1), ROOM);
        due("no STEP", x.nodes(WRITER, 3), 3);
        due("a shorter CODE has room", x.put(3, 0), 1);
        due("996", x.bits(), 996);
        due("drop", x.drop(), 996);
        due("then there is room", x.put(2, 63), 6);
    }

    private void putRefused() {
        about("Promise 4: UNKNOWN; OUTSIDE; ROOM");
        for (int bits : new int[] {20, 1000}) {
            AdaptiveTrees x = withBits(bits);
            for (int t : NO_TREES) {
                due("tree " + t, x.put(t, 0), UNKNOWN);
                due("tree " + t + ", no SIGN", x.put(t, 64), UNKNOWN);
            }
            for (int sign : new int[] {-1, 64, LEAST, MOST}) {
                due("sign " + sign, x.put(3, sign), OUTSIDE);
            }
            due("nothing is written", x.bits(), bits);
        }
    }

    private void bitsThatThereAre() {
        about("Promise 5: How many BITS there are");
        AdaptiveTrees x = new AdaptiveTrees(3);
        due("none", x.bits(), 0);
        x.put(0, 5);
        due("none by a refused put()", x.bits(), 0);
        x.put(0, 2);
        due("two", x.bits(), 2);
        x.pull(0);
        due("those that were taken are there", x.bits(), 2);
        x.drop();
        due("none", x.bits(), 0);
        due("1000", withBits(1000).bits(), 1000);
    }

    private void bitThatThereIsNot() {
        about("Promise 6: BIT i: 0, 1. NONE: there is none such");
        AdaptiveTrees x = new AdaptiveTrees(64);
        for (int i : new int[] {0, -1, 1, 999, 1000, LEAST, MOST}) {
            due("empty, " + i, x.bit(i), NONE);
        }
        x.put(0, 37);
        dueBits(x, "100101");
        due("-1", x.bit(-1), NONE);
        x.drop();
        due("dropped", x.bit(0), NONE);
        x.put(1, 0);
        due("one that was dropped is not there again", x.bit(6), NONE);
        dueBits(x, "000000");
        x = withBits(1000);
        due("full, the last one", x.bit(999), 0);
        for (int i : new int[] {-1, 1000, 1001, LEAST, MOST}) {
            due("full, " + i, x.bit(i), NONE);
        }
    }

    private void dropOfNone() {
        about("Promise 7: Answers how many there were; there were none");
        AdaptiveTrees x = new AdaptiveTrees(2);
        due("none", x.drop(), 0);
        due("none again", x.drop(), 0);
        x.put(0, 1);
        due("one", x.drop(), 1);
        due("none", x.drop(), 0);
    }

    private void dropOfAll() {
        about("Promise 7: There are no BITS any more, none are taken by pull()");
        AdaptiveTrees x = withBits(1000);
        due("read", x.pull(3), 0);
        due("taken", x.pulled(), 6);
        due("1000", x.drop(), 1000);
        due("bits", x.bits(), 0);
        due("pulled", x.pulled(), 0);
        due("nothing to pull", x.pull(3), NONE);
        x.put(3, 0);
        due("the new one is pulled", x.pull(3), 0);
        due("pulled", x.pulled(), 1);
        due("LEAVES stay", x.knows(WRITER, 3, 0), 1);
    }

    private void dropInACode() {
        about("Promise 7: the READER is AT A BEGINNING");
        AdaptiveTrees x = new AdaptiveTrees(4);
        due("in a number", x.get(0, true), NONE);
        due("no BITS", x.drop(), 0);
        dueRead(x, 1, "10", 2);
        due("on the way", x.get(1, true), NONE);
        x.drop();
        due("from the root", x.get(1, false), 2);
        x.put(0, 3);
        x.put(0, 2);
        due("3", x.pull(0), 3);
        due("to the ESCAPE", x.get(0, true), NONE);
        due("dropped", x.drop(), 5);
        due("from the root", x.get(0, false), 3);
    }

    private void getOfATree() {
        about("Promise 8: Answers the SIGN; NONE: the CODE goes on; REFUSED. UNKNOWN");
        AdaptiveTrees x = new AdaptiveTrees(3);
        for (int t : NO_TREES) {
            due("tree " + t, x.get(t, false), UNKNOWN);
            due("tree " + t, x.get(t, true), UNKNOWN);
        }
        dueRead(x, 3, "00", 0);
        dueRead(x, 3, "111", REFUSED);
        dueRead(x, 3, "100", REFUSED);
        dueRead(x, 3, "110", 2);
        x.form(3, SPLAYED);
        dueRead(x, 3, "1", 0);
        dueRead(x, 3, "01", 2);
        due("no BIT was taken by pull()", x.pulled(), 0);
    }

    private void getInACodeOfAnother() {
        about("Promise 8: STATE: it is in a CODE of another TREE");
        for (int t = 0; t < 4; t++) {
            AdaptiveTrees x = new AdaptiveTrees(4);
            x.get(t, true);
            for (int other = 0; other < 4; other++) {
                if (other != t) {
                    due(other + " in a CODE of " + t, x.get(other, true), STATE);
                }
            }
            for (int no : NO_TREES) {
                due("UNKNOWN comes first", x.get(no, true), UNKNOWN);
            }
            due("where it was", x.get(t, false), 2);
            due("none is in a CODE now", x.get((t + 1) % 4, true), NONE);
        }
    }

    private void pullWithNone() {
        about("Promise 9: NONE when there are no more");
        AdaptiveTrees x = new AdaptiveTrees(4);
        for (int t = 0; t < 4; t++) {
            due("none at all", x.pull(t), NONE);
        }
        due("it is in no CODE by that", x.get(0, true), NONE);
        due("none, in a CODE of it", x.pull(0), NONE);
        due("where it was", x.get(0, true), 3);
        x.put(1, 2);
        due("read", x.pull(1), 2);
        due("no more", x.pull(1), NONE);
        due("no more", x.pull(2), NONE);
    }

    private void pullInPieces() {
        about("Promise 9: with the BITS that pull() did not take yet, one by one, until one answers other than NONE");
        AdaptiveTrees x = new AdaptiveTrees(4);
        x.put(0, 1);
        due("one bit of another CODE by get()", x.get(2, true), NONE);
        due("1 by get(), 0 by pull()", x.pull(2), 2);
        due("taken", x.pulled(), 1);
        due("1: the CODE goes on", x.pull(1), NONE);
        due("taken", x.pulled(), 2);
        due("its last bit by a new put()", x.put(0, 1), 1);
        due("1 and 0", x.pull(1), 2);
        due("taken", x.pulled(), 3);
        due("its last bit by get()", x.pull(3), NONE);
        dueRead(x, 3, "01", 1);
    }

    private void pullRefusedCode() {
        about("Promise 9: until one answers other than NONE: that answer; REFUSED");
        AdaptiveTrees x = new AdaptiveTrees(3);
        x.form(0, SPLAYED);
        putAll(x, 0, 0, 0, 0);
        // 1, 1, 1: behind 11, that is no SIGN of the COUNTED one, comes a 1.
        due("11", x.pull(1), REFUSED);
        due("taken", x.pulled(), 2);
        due("no STEP", x.nodes(READER, 1), 1);
        due("it is AT A BEGINNING", x.pull(0), 0);
        due("taken", x.pulled(), 3);
    }

    private void pullInACodeOfAnother() {
        about("Promise 9: UNKNOWN; STATE");
        AdaptiveTrees x = new AdaptiveTrees(4);
        for (int t : NO_TREES) {
            due("tree " + t + ", no BITS", x.pull(t), UNKNOWN);
        }
        x.get(3, true);
        due("STATE, though there are no BITS", x.pull(0), STATE);
        x.put(0, 1);
        due("STATE", x.pull(0), STATE);
        for (int t : NO_TREES) {
            due("UNKNOWN comes first", x.pull(t), UNKNOWN);
        }
        due("none were taken", x.pulled(), 0);
        due("where it was", x.pull(3), 2);
    }

    private void pulledBits() {
        about("Promise 10: How many BITS pull() took");
        AdaptiveTrees x = new AdaptiveTrees(64);
        due("none", x.pulled(), 0);
        x.pull(0);
        due("there was none", x.pulled(), 0);
        x.put(0, 63);
        dueRead(x, 0, "111111", 63);
        due("get() takes none", x.pulled(), 0);
        x.pull(4);
        due("a refused pull() takes none", x.pulled(), 0);
        x.pull(1);
        due("all six", x.pulled(), 6);
        x = new AdaptiveTrees(64);
        for (int t : writeUpTo(x, 1000)) {
            x.pull(t);
        }
        due("all 1000", x.pulled(), 1000);
        due("no more", x.pull(3), NONE);
        due("all 1000", x.pulled(), 1000);
        due("and the same TREES", x.same(0), 1);
    }

    private void costOfSigns() {
        about("Promise 11: How many bits the CODE of a SIGN has. UNKNOWN; OUTSIDE");
        AdaptiveTrees x = new AdaptiveTrees(64);
        due("not KNOWN, the ESCAPE alone", x.cost(WRITER, 0, 0), 6);
        x.put(0, 0);
        due("one alone", x.cost(WRITER, 0, 0), 1);
        due("not KNOWN", x.cost(WRITER, 0, 63), 7);
        due("the READER's", x.cost(READER, 0, 63), 6);
        due("it makes no STEP", x.nodes(WRITER, 0), 3);
        x.form(1, SPLAYED);
        due("SPLAYED, the first one", x.cost(READER, 1, 0), 6);
        due("SPLAYED, the last one", x.cost(READER, 1, 63), 6);
        for (int sign : new int[] {-1, 64, LEAST, MOST}) {
            for (int t = 0; t < 2; t++) {
                due("sign " + sign, x.cost(WRITER, t, sign), OUTSIDE);
            }
            due("UNKNOWN comes first", x.cost(2, 0, sign), UNKNOWN);
            due("UNKNOWN comes first", x.cost(0, 4, sign), UNKNOWN);
        }
        for (int no : NO_ENDS) {
            due("end " + no, x.cost(no, 0, 0), UNKNOWN);
        }
        for (int no : NO_TREES) {
            due("tree " + no, x.cost(0, no, 0), UNKNOWN);
        }
    }

    private void codeThatHasNoSuchBit() {
        about("Promise 12: NONE: it has none such. UNKNOWN; OUTSIDE: the SIGN");
        AdaptiveTrees x = new AdaptiveTrees(5);
        x.form(1, SPLAYED);
        x.put(0, 2);
        int[][] treeSignBits = {{0, 2, 1}, {0, 4, 4}, {1, 0, 2}, {1, 4, 3}, {2, 0, 3}};
        for (int[] row : treeSignBits) {
            int last = x.code(WRITER, row[0], row[1], row[2] - 1);
            due("the last bit is there", last == 0 || last == 1 ? 1 : 0, 1);
            for (int i : new int[] {-1, row[2], row[2] + 1, LEAST, MOST}) {
                due("bit " + i, x.code(WRITER, row[0], row[1], i), NONE);
            }
        }
        for (int sign : new int[] {-1, 5, LEAST, MOST}) {
            due("sign " + sign, x.code(WRITER, 0, sign, 0), OUTSIDE);
            due("sign " + sign + ", no bit", x.code(WRITER, 1, sign, -1), OUTSIDE);
            due("UNKNOWN comes first", x.code(2, 0, sign, -1), UNKNOWN);
        }
        for (int no : NO_ENDS) {
            due("end " + no, x.code(no, 0, 0, 0), UNKNOWN);
            due("end " + no + ", no bit", x.code(no, 0, 0, MOST), UNKNOWN);
        }
        for (int no : NO_TREES) {
            due("tree " + no, x.code(0, no, 0, 0), UNKNOWN);
            due("tree " + no + ", no bit", x.code(0, no, 0, -1), UNKNOWN);
        }
    }

    private void knowsOrNot() {
        about("Promise 13: Whether a TREE KNOWS a SIGN (1, 0). UNKNOWN; OUTSIDE");
        AdaptiveTrees x = new AdaptiveTrees(3);
        due("empty", x.knows(WRITER, 0, 0), 0);
        due("empty", x.knows(WRITER, 0, 2), 0);
        putAll(x, 0, 2, 0);
        due("0", x.knows(WRITER, 0, 0), 1);
        due("1", x.knows(WRITER, 0, 1), 0);
        due("2", x.knows(WRITER, 0, 2), 1);
        due("the READER's", x.knows(READER, 0, 2), 0);
        x.form(3, SPLAYED);
        due("SPLAYED", x.knows(READER, 3, 0), 1);
        for (int sign : new int[] {-1, 3, LEAST, MOST}) {
            due("sign " + sign, x.knows(WRITER, 0, sign), OUTSIDE);
            due("sign " + sign + ", SPLAYED", x.knows(WRITER, 3, sign), OUTSIDE);
            due("UNKNOWN comes first", x.knows(-1, 0, sign), UNKNOWN);
            due("UNKNOWN comes first", x.knows(0, -1, sign), UNKNOWN);
        }
        for (int no : NO_ENDS) {
            due("end " + no, x.knows(no, 0, 0), UNKNOWN);
        }
        for (int no : NO_TREES) {
            due("tree " + no, x.knows(0, no, 0), UNKNOWN);
        }
    }

    private void escapeOrNone() {
        about("Promise 14: How many bits lead to the ESCAPE. NONE: SPLAYED. UNKNOWN");
        AdaptiveTrees x = new AdaptiveTrees(2);
        due("alone", x.escape(WRITER, 0), 0);
        x.put(0, 0);
        due("beside a LEAF", x.escape(WRITER, 0), 1);
        x.put(0, 1);
        due("all are KNOWN", x.escape(WRITER, 0), 2);
        due("the READER's", x.escape(READER, 0), 0);
        x.form(0, SPLAYED);
        due("SPLAYED", x.escape(WRITER, 0), NONE);
        due("SPLAYED", x.escape(READER, 0), NONE);
        x.form(0, COUNTED);
        due("alone again", x.escape(WRITER, 0), 0);
        for (int no : NO_ENDS) {
            due("end " + no, x.escape(no, 0), UNKNOWN);
        }
        for (int no : NO_TREES) {
            due("tree " + no, x.escape(1, no), UNKNOWN);
        }
    }

    private void halvedSinceAtFirst() {
        about("Promise 15: How often a TREE was HALVED since it was as at first. UNKNOWN");
        AdaptiveTrees x = new AdaptiveTrees(2);
        x.limit(8);
        due("never", x.halved(WRITER, 0), 0);
        for (int i = 1; i <= 12; i++) {
            x.put(0, 0);
            // 8 is 4 then, and so each four STEPS more.
            due("behind " + i, x.halved(WRITER, 0), i < 8 ? 0 : i < 12 ? 1 : 2);
        }
        due("the READER's", x.halved(READER, 0), 0);
        due("another one", x.halved(WRITER, 1), 0);
        x.save(0, WRITER, 0);
        x.form(0, COUNTED);
        due("as at first", x.halved(WRITER, 0), 0);
        x.restore(0, WRITER, 0);
        due("taken back", x.halved(WRITER, 0), 2);
        x.form(0, SPLAYED);
        due("as at first, SPLAYED", x.halved(WRITER, 0), 0);
        for (int i = 0; i < 20; i++) {
            x.put(0, 0);
        }
        due("SPLAYED", x.halved(WRITER, 0), 0);
        for (int no : NO_ENDS) {
            due("end " + no, x.halved(no, 0), UNKNOWN);
        }
        for (int no : NO_TREES) {
            due("tree " + no, x.halved(1, no), UNKNOWN);
        }
    }

    private void nodesLeastAndMost() {
        about("Promise 16: How many nodes a TREE has. UNKNOWN");
        for (int n = 2; n <= 64; n++) {
            AdaptiveTrees x = new AdaptiveTrees(n);
            due("the least", x.nodes(WRITER, 0), 1);
            for (int sign = 0; sign < n; sign++) {
                x.put(0, sign);
            }
            due("the most", x.nodes(WRITER, 0), 2 * n + 1);
            x.put(0, n - 1);
            due("a KNOWN one brings none", x.nodes(WRITER, 0), 2 * n + 1);
            x.put(0, n);
            due("a refused one brings none", x.nodes(WRITER, 0), 2 * n + 1);
            x.form(0, SPLAYED);
            due("SPLAYED", x.nodes(WRITER, 0), 2 * n - 1);
        }
        AdaptiveTrees x = new AdaptiveTrees(2);
        for (int no : NO_ENDS) {
            due("end " + no, x.nodes(no, 0), UNKNOWN);
        }
        for (int no : NO_TREES) {
            due("tree " + no, x.nodes(1, no), UNKNOWN);
        }
    }

    private void nodeThatThereIsNot() {
        about("Promise 17: IndexOutOfBoundsException: there is no such END, TREE, node, what");
        AdaptiveTrees x = new AdaptiveTrees(3);
        x.form(1, SPLAYED);
        putAll(x, 0, 2, 1);
        int[] many = {5, 5, 1};
        for (int t = 0; t < 3; t++) {
            for (int what = 0; what < 4; what++) {
                due("the last node is there", node(x, WRITER, t, many[t] - 1, what) == THROWS ? 1 : 0, 0);
                for (int i : new int[] {-1, many[t], LEAST, MOST}) {
                    due("node " + i + ", " + what, node(x, WRITER, t, i, what), THROWS);
                }
            }
            for (int what : new int[] {-1, 4, LEAST, MOST}) {
                due("what " + what, node(x, READER, t, 0, what), THROWS);
            }
        }
        due("the READER's has one node", node(x, READER, 0, 1, 0), THROWS);
        for (int no : NO_ENDS) {
            due("end " + no, node(x, no, 0, 0, 0), THROWS);
            due("end " + no + ", none of all", node(x, no, 4, -1, 4), THROWS);
        }
        for (int no : NO_TREES) {
            due("tree " + no, node(x, 0, no, 0, 0), THROWS);
        }
        due("and nothing is changed by it", x.nodes(WRITER, 0), 5);
    }

    private void nodeNumbers() {
        about("Promise 17: -1: it is no LEAF, -2: the ESCAPE; NONE: the root; NONE: a LEAF; SPLAYED: 0");
        AdaptiveTrees x = new AdaptiveTrees(2);
        // The ESCAPE is the root, and a LEAF.
        dueNodes(x, WRITER, 0, row(0, -2, NONE, NONE));
        x.put(0, 1);
        dueNodes(x, WRITER, 0, row(1, -1, NONE, 1), row(1, 1, 0, NONE), row(0, -2, 0, NONE));
        x.form(0, SPLAYED);
        // COUNT 0, whatever there was before.
        dueNodes(x, WRITER, 0, row(0, -1, NONE, 1), row(0, 0, 0, NONE), row(0, 1, 0, NONE));
        x.put(0, 1);
        dueNodes(x, WRITER, 0, row(0, -1, NONE, 1), row(0, 0, 0, NONE), row(0, 1, 0, NONE));
    }

    private void wellAtTheEdges() {
        about("Promise 18: Whether a TREE is well (1, 0). UNKNOWN");
        for (int n : new int[] {2, 3, 64}) {
            AdaptiveTrees x = new AdaptiveTrees(n);
            x.limit(8);
            due("the ESCAPE alone", x.well(WRITER, 0), 1);
            for (int i = 0; i < 100; i++) {
                x.put(0, i * 11 % n);
                due("behind STEP " + i, x.well(WRITER, 0), 1);
            }
            due("it was HALVED", x.halved(WRITER, 0) > 0 ? 1 : 0, 1);
            x.save(0, WRITER, 0);
            x.restore(0, READER, 3);
            due("taken back", x.well(READER, 3), 1);
            x.form(1, SPLAYED);
            due("SPLAYED, as at first", x.well(READER, 1), 1);
            x.drop();
            for (int i = 0; i < 50; i++) {
                x.put(1, i * 13 % n);
                due("SPLAYED, behind STEP " + i, x.well(WRITER, 1), 1);
            }
        }
        AdaptiveTrees x = new AdaptiveTrees(2);
        for (int no : NO_ENDS) {
            due("end " + no, x.well(no, 0), UNKNOWN);
        }
        for (int no : NO_TREES) {
            due("tree " + no, x.well(1, no), UNKNOWN);
        }
    }

    private void sameOrNot() {
        about("Promise 19: Whether the TREES t of both ENDS are the same (FORM, nodes, COUNTS, SIGNS): 1, 0. UNKNOWN");
        AdaptiveTrees x = new AdaptiveTrees(2);
        due("as at first", x.same(0), 1);
        x.put(0, 0);
        due("other nodes", x.same(0), 0);
        dueRead(x, 0, "1", 1);
        due("other SIGNS alone", x.same(0), 0);
        x.save(0, WRITER, 0);
        x.restore(0, READER, 0);
        due("taken over", x.same(0), 1);
        dueRead(x, 0, "0", 0);
        due("other COUNTS alone", x.same(0), 0);
        x.put(0, 0);
        due("the same again", x.same(0), 1);

        x = new AdaptiveTrees(3);
        x.form(1, SPLAYED);
        x.save(0, READER, 1);
        due("SPLAYED, as at first", x.same(1), 1);
        x.put(1, 1);
        due("SPLAYED, other children", x.same(1), 0);
        x.pull(1);
        due("SPLAYED, the same again", x.same(1), 1);
        x.restore(0, WRITER, 0);
        due("other FORM", x.same(0), 0);
        // Five nodes each: the FORM, the COUNTS and the SIGNS are others.
        x.put(2, 0);
        x.put(2, 1);
        x.restore(0, READER, 2);
        due("as many nodes, other FORM", x.same(2), 0);
        for (int no : NO_TREES) {
            due("tree " + no, x.same(no), UNKNOWN);
        }
    }

    private void slotsThatThereAre() {
        about("Promise 20: A slot (0 .. 3). Answers whether it had one (1, 0). UNKNOWN");
        AdaptiveTrees x = new AdaptiveTrees(4);
        for (int no : NO_TREES) {
            due("slot " + no, x.save(no, 0, 0), UNKNOWN);
            due("tree " + no, x.save(0, 0, no), UNKNOWN);
        }
        for (int no : NO_ENDS) {
            due("end " + no, x.save(0, no, 0), UNKNOWN);
        }
        for (int slot = 0; slot < 4; slot++) {
            due("slot " + slot + " had none", x.save(slot, slot % 2, 3 - slot), 0);
            due("slot " + slot + " had one", x.save(slot, 0, 0), 1);
            due("slot " + slot + " had one", x.save(slot, 0, 0), 1);
        }
        due("a refused save(), the slot has one", x.save(0, 2, 0), UNKNOWN);
    }

    private void saveAsItIsNow() {
        about("Promise 20: A slot has a TREE as it is now");
        AdaptiveTrees x = new AdaptiveTrees(4);
        x.save(0, WRITER, 0);
        x.put(0, 3);
        x.save(1, WRITER, 0);
        x.put(0, 2);
        x.form(0, SPLAYED);
        x.restore(0, READER, 1);
        dueAsAtFirst(x, READER, 1);
        x.restore(1, READER, 1);
        dueNodes(x, READER, 1, row(1, -1, NONE, 1), row(1, 3, 0, NONE), row(0, -2, 0, NONE));
        dueRead(x, 1, "0", 3);
        x.restore(1, READER, 2);
        due("the slot's does not go on with the TREE", node(x, READER, 2, 0, 0), 1);
        x.save(1, WRITER, 0);
        due("the slot's is another one now", x.restore(1, READER, 2), SPLAYED);
        x.get(3, true);
        x.save(2, READER, 3);
        due("the READER stays in its CODE", x.get(3, true), 3);
        x.restore(2, WRITER, 3);
        dueAsAtFirst(x, WRITER, 3);
    }

    private void restoreOfNone() {
        about("Promise 21: UNKNOWN; STATE: the slot has none");
        AdaptiveTrees x = new AdaptiveTrees(4);
        x.put(0, 1);
        for (int slot = 0; slot < 4; slot++) {
            due("slot " + slot, x.restore(slot, WRITER, 0), STATE);
            due("slot " + slot, x.restore(slot, READER, 3), STATE);
        }
        due("nothing is changed", x.nodes(WRITER, 0), 3);
        for (int times = 0; times < 2; times++) {
            for (int no : NO_TREES) {
                due("slot " + no, x.restore(no, 0, 0), UNKNOWN);
                due("tree " + no, x.restore(2, 0, no), UNKNOWN);
            }
            for (int no : NO_ENDS) {
                due("end " + no, x.restore(2, no, 0), UNKNOWN);
            }
            x.save(2, WRITER, 0);
        }
        due("the other slots have none", x.restore(1, WRITER, 0), STATE);
        due("this one has", x.restore(2, WRITER, 0), COUNTED);
    }

    private void restoreWithAll() {
        about("Promise 21: A TREE is as a slot has it, with its FORM and how often it was HALVED. Answers its FORM");
        AdaptiveTrees x = new AdaptiveTrees(2);
        x.limit(8);
        putAll(x, 0, 1, 1, 1, 1, 1, 1, 1, 0);
        x.save(3, WRITER, 0);
        x.form(1, SPLAYED);
        due("COUNTED over SPLAYED", x.restore(3, READER, 1), COUNTED);
        due("halved", x.halved(READER, 1), 1);
        dueNodes(x, READER, 1, row(5, -1, NONE, 1), row(4, 1, 0, NONE), row(1, -1, 0, 3), row(1, 0, 2, NONE),
                row(0, -2, 2, NONE));
        due("its ESCAPE", x.escape(READER, 1), 2);
        due("the WRITER's is not", x.escape(WRITER, 1), NONE);
        x.save(2, WRITER, 1);
        due("SPLAYED over COUNTED", x.restore(2, WRITER, 0), SPLAYED);
        due("halved", x.halved(WRITER, 0), 0);
        dueNodes(x, WRITER, 0, row(0, -1, NONE, 1), row(0, 0, 0, NONE), row(0, 1, 0, NONE));
        due("it writes so", x.put(0, 1), 1);
        x.restore(3, WRITER, 0);
        putAll(x, 0, 1, 1, 1);
        due("it is HALVED once more", x.halved(WRITER, 0), 2);
        x.save(0, READER, 3);
        due("one as at first", x.restore(0, WRITER, 0), COUNTED);
        dueAsAtFirst(x, WRITER, 0);
        dueCode(x, WRITER, 0, 1, "1");
        due("BITS stay", x.bits() > 0 ? 1 : 0, 1);
        putAll(x, 2, 0);
        x.save(1, WRITER, 2);
        x.restore(1, WRITER, 3);
        due("its ESCAPE", x.escape(WRITER, 3), 1);
        dueCode(x, WRITER, 3, 1, "11");
    }

    private void restoreInACodeOfIt() {
        about("Promise 21: If it is the READER's, and that is in a CODE of it, the READER is AT A BEGINNING");
        AdaptiveTrees x = new AdaptiveTrees(4);
        x.save(0, READER, 0);
        due("in a number", x.get(0, true), NONE);
        x.restore(0, READER, 0);
        dueRead(x, 0, "01", 1);
        x.save(1, READER, 0);
        due("on the way", x.get(0, true), NONE);
        x.restore(1, READER, 0);
        due("from the root", x.get(0, false), 1);

        due("in a CODE of 0", x.get(0, true), NONE);
        x.restore(0, WRITER, 0);
        due("the WRITER's", x.get(1, true), STATE);
        x.restore(0, READER, 1);
        due("another one of the READER's", x.get(1, true), STATE);
        x.restore(2, READER, 0);
        due("refused: the slot has none", x.get(1, true), STATE);
        x.restore(4, READER, 0);
        due("refused: no slot", x.get(1, true), STATE);
        dueRead(x, 0, "11", 3);
    }
}
