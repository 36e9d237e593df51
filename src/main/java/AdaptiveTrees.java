/**
 * Codes that learn: a writer and a reader that change their trees by the same steps.
 * The document (shared/DOC.md) tells what each call promises; its words in capitals are used here.
 */
public final class AdaptiveTrees {
    public static final int NONE = -1, UNKNOWN = -2, OUTSIDE = -3, STATE = -4, ROOM = -5, REFUSED = -6;

    private static final int LEAST_SIGNS = 2, MOST_SIGNS = 64;
    private static final int LEAST_LIMIT = 8, MOST_LIMIT = 100000, FIRST_LIMIT = 1000;
    private static final int MOST_BITS = 1000;
    private static final int ENDS = 2, WRITER = 0, READER = 1;
    private static final int TREES = 4, SLOTS = 4;
    private static final int COUNTED = 0, SPLAYED = 1;
    private static final int ROOT = 0;
    /** What a node has as its SIGN where it is no LEAF, and where it is the ESCAPE. */
    private static final int INNER = -1, ESCAPE = -2;

    private final int signs;
    private final int width;
    private final Tree[] writers = new Tree[TREES];
    private final Tree[] readers = new Tree[TREES];
    private final Tree[] slots = new Tree[SLOTS];
    private final boolean[] slotHasTree = new boolean[SLOTS];
    private final int[] written = new int[MOST_BITS];
    private int writtenBits = 0;
    private int takenBits = 0;
    private int stepLimit = FIRST_LIMIT;
    private final Code laid;
    private final Reading reading = new Reading();

    public AdaptiveTrees(int signs) {
        this.signs = Math.max(LEAST_SIGNS, Math.min(MOST_SIGNS, signs));
        this.width = widthFor(this.signs);
        this.laid = new Code(mostNodes(this.signs) + this.width);
        Pieces pieces = new Pieces(this.signs + 1);
        for (int t = 0; t < TREES; t++) {
            writers[t] = new Tree(this.signs, pieces);
            readers[t] = new Tree(this.signs, pieces);
        }
        for (int slot = 0; slot < SLOTS; slot++) {
            slots[slot] = new Tree(this.signs, pieces);
        }
    }

    public int form(int t, int f) {
        if (!isTree(t)) {
            return UNKNOWN;
        }
        if (f != COUNTED && f != SPLAYED) {
            return OUTSIDE;
        }
        int before = writers[t].form;
        writers[t].beginAs(f);
        readers[t].beginAs(f);
        reading.leaveCodeOf(t);
        return before;
    }

    public int limit(int n) {
        if (n < LEAST_LIMIT || n > MOST_LIMIT) {
            return OUTSIDE;
        }
        int before = stepLimit;
        stepLimit = n;
        return before;
    }

    public int put(int t, int sign) {
        if (!isTree(t)) {
            return UNKNOWN;
        }
        if (!isSign(sign)) {
            return OUTSIDE;
        }
        layCode(writers[t], sign);
        if (laid.length > MOST_BITS - writtenBits) {
            return ROOM;
        }
        for (int i = 0; i < laid.length; i++) {
            written[writtenBits] = laid.bitAt(i);
            writtenBits++;
        }
        writers[t].stepBy(sign, stepLimit);
        return laid.length;
    }

    public int bits() {
        return writtenBits;
    }

    public int bit(int i) {
        return i >= 0 && i < writtenBits ? written[i] : NONE;
    }

    public int drop() {
        int before = writtenBits;
        writtenBits = 0;
        takenBits = 0;
        reading.begin();
        return before;
    }

    public int get(int t, boolean bit) {
        if (!isTree(t)) {
            return UNKNOWN;
        }
        if (reading.isInCodeOfOtherThan(t)) {
            return STATE;
        }
        return readBit(t, bit ? 1 : 0);
    }

    public int pull(int t) {
        if (!isTree(t)) {
            return UNKNOWN;
        }
        if (reading.isInCodeOfOtherThan(t)) {
            return STATE;
        }
        while (takenBits < writtenBits) {
            int next = written[takenBits];
            takenBits++;
            int answer = readBit(t, next);
            if (answer != NONE) {
                return answer;
            }
        }
        return NONE;
    }

    public int pulled() {
        return takenBits;
    }

    public int cost(int end, int t, int sign) {
        if (!isEnd(end) || !isTree(t)) {
            return UNKNOWN;
        }
        if (!isSign(sign)) {
            return OUTSIDE;
        }
        layCode(treeOf(end, t), sign);
        return laid.length;
    }

    public int code(int end, int t, int sign, int i) {
        if (!isEnd(end) || !isTree(t)) {
            return UNKNOWN;
        }
        if (!isSign(sign)) {
            return OUTSIDE;
        }
        layCode(treeOf(end, t), sign);
        return laid.bitAt(i);
    }

    public int knows(int end, int t, int sign) {
        if (!isEnd(end) || !isTree(t)) {
            return UNKNOWN;
        }
        if (!isSign(sign)) {
            return OUTSIDE;
        }
        return oneIf(treeOf(end, t).hasLeafOf(sign));
    }

    public int escape(int end, int t) {
        if (!isEnd(end) || !isTree(t)) {
            return UNKNOWN;
        }
        Tree tree = treeOf(end, t);
        return tree.form == COUNTED ? tree.depthOf(tree.escapePlace) : NONE;
    }

    public int halved(int end, int t) {
        return isEnd(end) && isTree(t) ? treeOf(end, t).halvings : UNKNOWN;
    }

    public int nodes(int end, int t) {
        return isEnd(end) && isTree(t) ? treeOf(end, t).size : UNKNOWN;
    }

    public int node(int end, int t, int i, int what) throws IndexOutOfBoundsException {
        if (!isEnd(end) || !isTree(t)) {
            throw new IndexOutOfBoundsException("no such end or tree");
        }
        Tree tree = treeOf(end, t);
        if (!tree.hasNode(i)) {
            throw new IndexOutOfBoundsException("no such node");
        }
        switch (what) {
            case 0:
                return tree.countAt(i);
            case 1:
                return tree.signAt(i);
            case 2:
                return tree.parentOf(i);
            case 3:
                return tree.childOf(i, 0);
            default:
                throw new IndexOutOfBoundsException("a node has no such number");
        }
    }

    public int well(int end, int t) {
        return isEnd(end) && isTree(t) ? oneIf(treeOf(end, t).isWell()) : UNKNOWN;
    }

    public int same(int t) {
        return isTree(t) ? oneIf(writers[t].isLike(readers[t])) : UNKNOWN;
    }

    public int save(int slot, int end, int t) {
        if (!isSlot(slot) || !isEnd(end) || !isTree(t)) {
            return UNKNOWN;
        }
        int before = oneIf(slotHasTree[slot]);
        slots[slot].becomeLike(treeOf(end, t));
        slotHasTree[slot] = true;
        return before;
    }

    public int restore(int slot, int end, int t) {
        if (!isSlot(slot) || !isEnd(end) || !isTree(t)) {
            return UNKNOWN;
        }
        if (!slotHasTree[slot]) {
            return STATE;
        }
        treeOf(end, t).becomeLike(slots[slot]);
        if (end == READER) {
            reading.leaveCodeOf(t);
        }
        return slots[slot].form;
    }

    private static int widthFor(int signs) {
        int bits = 1;
        while (bits < 6 && (1 << bits) < signs) {
            bits++;
        }
        return bits;
    }

    /** A COUNTED TREE that KNOWS all SIGNS has the most nodes: their LEAVES, the ESCAPE, and one less inside. */
    private static int mostNodes(int signs) {
        return 2 * signs + 1;
    }

    private static int oneIf(boolean holds) {
        return holds ? 1 : 0;
    }

    private static boolean isEnd(int end) {
        return end >= 0 && end < ENDS;
    }

    private static boolean isTree(int t) {
        return t >= 0 && t < TREES;
    }

    private static boolean isSlot(int slot) {
        return slot >= 0 && slot < SLOTS;
    }

    private boolean isSign(int sign) {
        return sign >= 0 && sign < signs;
    }

    private Tree treeOf(int end, int t) {
        return end == WRITER ? writers[t] : readers[t];
    }

    private void layCode(Tree tree, int sign) {
        laid.length = 0;
        if (tree.hasLeafOf(sign)) {
            tree.layWayTo(tree.leafOf(sign), laid);
        } else {
            tree.layWayTo(tree.escapePlace, laid);
            laid.appendNumber(sign, width);
        }
    }

    private int readBit(int t, int bit) {
        Tree tree = readers[t];
        reading.enterCodeOf(t);
        boolean inNumber = tree.signAt(reading.node) == ESCAPE;
        int answer = inNumber ? takeNumberBit(tree, bit) : takeWayBit(tree, bit);
        if (answer == NONE) {
            return NONE;
        }
        reading.begin();
        if (answer != REFUSED) {
            tree.stepBy(answer, stepLimit);
        }
        return answer;
    }

    private int takeWayBit(Tree tree, int bit) {
        reading.node = tree.childOf(reading.node, bit);
        int sign = tree.signAt(reading.node);
        return sign >= 0 ? sign : NONE;
    }

    private int takeNumberBit(Tree tree, int bit) {
        reading.number = 2 * reading.number + bit;
        reading.numberBits++;
        if (reading.numberBits < width) {
            return NONE;
        }
        return isSign(reading.number) && !tree.hasLeafOf(reading.number) ? reading.number : REFUSED;
    }

    /** Where the READER is: in a CODE of a TREE, or AT A BEGINNING. */
    private static final class Reading {
        private int tree = NONE;
        private int node = ROOT;
        private int number = 0;
        private int numberBits = 0;

        void begin() {
            tree = NONE;
            node = ROOT;
            number = 0;
            numberBits = 0;
        }

        void enterCodeOf(int t) {
            tree = t;
        }

        void leaveCodeOf(int t) {
            if (tree == t) {
                begin();
            }
        }

        boolean isInCodeOfOtherThan(int t) {
            return tree != NONE && tree != t;
        }
    }

    /** The bits of one CODE, in a row that is used again for each. */
    private static final class Code {
        private final int[] row;
        private int length = 0;

        Code(int most) {
            row = new int[most];
        }

        int bitAt(int i) {
            return i >= 0 && i < length ? row[i] : NONE;
        }

        void append(int bit) {
            if (length < row.length) {
                row[length] = bit;
                length++;
            }
        }

        void appendNumber(int number, int bits) {
            for (int shift = bits - 1; shift >= 0; shift--) {
                append((number >> shift) & 1);
            }
        }

        void reverse() {
            for (int low = 0, high = length - 1; low < high; low++, high--) {
                int kept = row[low];
                row[low] = row[high];
                row[high] = kept;
            }
        }
    }

    /** The row of PIECES of a TREE that is being HALVED. */
    private static final class Pieces {
        private final int[] count;
        private final int[] sign;
        private final int[] first;
        private int size = 0;

        Pieces(int most) {
            count = new int[most];
            sign = new int[most];
            first = new int[most];
        }

        void append(int itsCount, int itsSign) {
            if (size < count.length) {
                size++;
                set(size - 1, itsCount, itsSign, NONE);
            }
        }

        /** Puts the PARENT of the last two in their stead, whose first child has its place already. */
        void joinLastTwo(int firstChild) {
            if (size < 2 || size > count.length) {
                return;
            }
            int together = count[size - 2] + count[size - 1];
            int at = size - 2;
            while (at > 0 && count[at - 1] < together) {
                set(at, count[at - 1], sign[at - 1], first[at - 1]);
                at--;
            }
            set(at, together, INNER, firstChild);
            size--;
        }

        boolean has(int at) {
            return at >= 0 && at < size && at < count.length;
        }

        private void set(int at, int itsCount, int itsSign, int itsFirst) {
            if (has(at)) {
                count[at] = itsCount;
                sign[at] = itsSign;
                first[at] = itsFirst;
            }
        }
    }

    /**
     * A TREE of either FORM. Its nodes are numbers: PLACES where it is COUNTED. Both children are held
     * in both FORMS, so that ways are found alike, though in a COUNTED one they stand side by side.
     */
    private static final class Tree {
        private final int signs;
        private final Pieces pieces;
        private final int[] count;
        private final int[] sign;
        private final int[] parent;
        private final int[] first;
        private final int[] second;
        /** The node that is a SIGN's LEAF, or NONE. */
        private final int[] leaf;
        private int form = COUNTED;
        private int size = 0;
        private int escapePlace = NONE;
        private int halvings = 0;

        Tree(int signs, Pieces pieces) {
            this.signs = signs;
            this.pieces = pieces;
            int most = mostNodes(signs);
            count = new int[most];
            sign = new int[most];
            parent = new int[most];
            first = new int[most];
            second = new int[most];
            leaf = new int[signs];
            beginCounted();
        }

        void beginAs(int newForm) {
            if (newForm == SPLAYED) {
                beginSplayed();
            } else {
                beginCounted();
            }
        }

        private void beginCounted() {
            form = COUNTED;
            halvings = 0;
            for (int s = 0; s < signs; s++) {
                leaf[s] = NONE;
            }
            size = 1;
            parent[ROOT] = NONE;
            fill(ROOT, 0, ESCAPE, NONE, NONE);
        }

        private void beginSplayed() {
            form = SPLAYED;
            halvings = 0;
            escapePlace = NONE;
            size = 2 * signs - 1;
            parent[ROOT] = NONE;
            for (int k = 0; k < signs - 1; k++) {
                fill(k, 0, INNER, 2 * k + 1, 2 * k + 2);
            }
            for (int s = 0; s < signs; s++) {
                fill(signs - 1 + s, 0, s, NONE, NONE);
            }
        }

        /** Gives a node all but its PARENT, and tells it to those that point to it. */
        private void fill(int at, int itsCount, int itsSign, int itsFirst, int itsSecond) {
            if (!hasNode(at)) {
                return;
            }
            count[at] = itsCount;
            sign[at] = itsSign;
            first[at] = itsFirst;
            second[at] = itsSecond;
            if (hasNode(itsFirst) && hasNode(itsSecond)) {
                parent[itsFirst] = at;
                parent[itsSecond] = at;
            } else if (itsSign == ESCAPE) {
                escapePlace = at;
            } else if (itsSign >= 0 && itsSign < leaf.length) {
                leaf[itsSign] = at;
            }
        }

        boolean hasNode(int at) {
            return at >= 0 && at < size && at < sign.length;
        }

        boolean hasLeafOf(int s) {
            return leafOf(s) != NONE;
        }

        int leafOf(int s) {
            return s >= 0 && s < leaf.length ? leaf[s] : NONE;
        }

        int countAt(int at) {
            return hasNode(at) ? count[at] : 0;
        }

        int signAt(int at) {
            return hasNode(at) ? sign[at] : INNER;
        }

        int parentOf(int at) {
            return hasNode(at) ? parent[at] : NONE;
        }

        int childOf(int at, int bit) {
            if (!hasNode(at)) {
                return NONE;
            }
            return bit == 0 ? first[at] : second[at];
        }

        int depthOf(int at) {
            int depth = 0;
            for (int up = parentOf(at); up != NONE && depth < size; up = parentOf(up)) {
                depth++;
            }
            return depth;
        }

        /** For a row that is empty: the way is found from its end, and so turned round. */
        void layWayTo(int node, Code code) {
            int at = node;
            for (int steps = 0; parentOf(at) != NONE && steps < size; steps++) {
                int above = parentOf(at);
                code.append(childOf(above, 0) == at ? 0 : 1);
                at = above;
            }
            code.reverse();
        }

        void stepBy(int s, int limit) {
            if (form == SPLAYED) {
                stepSplayed(s);
                return;
            }
            if (!hasLeafOf(s)) {
                splitEscapeFor(s);
            }
            stepCounted(s);
            if (countAt(ROOT) >= limit) {
                halve();
            }
        }

        private void splitEscapeFor(int s) {
            int at = escapePlace;
            int behind = size;
            if (!hasNode(at) || behind + 1 >= sign.length) {
                return;
            }
            size += 2;
            fill(behind, 0, s, NONE, NONE);
            fill(behind + 1, 0, ESCAPE, NONE, NONE);
            fill(at, 0, INNER, behind, behind + 1);
        }

        private void stepCounted(int s) {
            int at = leafOf(s);
            for (int steps = 0; hasNode(at) && steps < size; steps++) {
                int ahead = leastPlaceToChange(at);
                if (ahead < at) {
                    changePlaces(ahead, at);
                    at = ahead;
                }
                count[at]++;
                at = parent[at];
            }
        }

        /** The node's own PLACE, if none that is ahead may change with it. */
        private int leastPlaceToChange(int at) {
            int itsCount = countAt(at);
            int above = parentOf(at);
            for (int i = 0; i < at; i++) {
                if (countAt(i) == itsCount && i != above) {
                    return i;
                }
            }
            return at;
        }

        private void changePlaces(int a, int b) {
            if (!hasNode(a) || !hasNode(b)) {
                return;
            }
            int keptCount = count[a];
            int keptSign = sign[a];
            int keptFirst = first[a];
            int keptSecond = second[a];
            fill(a, count[b], sign[b], first[b], second[b]);
            fill(b, keptCount, keptSign, keptFirst, keptSecond);
        }

        private void halve() {
            gatherPieces();
            int free = size;
            while (pieces.size >= 2 && free > 2) {
                free -= 2;
                settle(pieces.size - 2, free);
                settle(pieces.size - 1, free + 1);
                pieces.joinLastTwo(free);
            }
            settle(0, ROOT);
            halvings++;
        }

        private void gatherPieces() {
            pieces.size = 0;
            for (int i = 0; i < size; i++) {
                if (signAt(i) != INNER) {
                    // The ESCAPE's COUNT is 0, so that rounding up leaves it alone.
                    pieces.append((countAt(i) + 1) / 2, signAt(i));
                }
            }
        }

        private void settle(int piece, int at) {
            if (!pieces.has(piece)) {
                return;
            }
            int itsFirst = pieces.first[piece];
            fill(at, pieces.count[piece], pieces.sign[piece], itsFirst, itsFirst == NONE ? NONE : itsFirst + 1);
        }

        private void stepSplayed(int s) {
            int at = leafOf(s);
            for (int steps = 0; steps < size; steps++) {
                int above = parentOf(at);
                int top = parentOf(above);
                if (top == NONE) {
                    return;
                }
                int other = childOf(top, childOf(top, 0) == above ? 1 : 0);
                putChild(above, at, other);
                putChild(top, other, at);
                at = top;
            }
        }

        private void putChild(int at, int old, int child) {
            if (!hasNode(at) || !hasNode(child)) {
                return;
            }
            if (first[at] == old) {
                first[at] = child;
            } else {
                second[at] = child;
            }
            parent[child] = at;
        }

        boolean isWell() {
            for (int i = 0; i < size; i++) {
                if (!areChildrenWell(i) || !isOnlyLeafOfItsSign(i)) {
                    return false;
                }
                if (form == COUNTED && !isCountWell(i)) {
                    return false;
                }
            }
            for (int s = 0; s < signs; s++) {
                if (hasLeafOf(s) && signAt(leafOf(s)) != s) {
                    return false;
                }
            }
            return true;
        }

        private boolean isOnlyLeafOfItsSign(int i) {
            return signAt(i) < 0 || leafOf(signAt(i)) == i;
        }

        private boolean areChildrenWell(int i) {
            return isLeaf(i) || parentOf(childOf(i, 0)) == i && parentOf(childOf(i, 1)) == i;
        }

        private boolean isCountWell(int i) {
            if (i > ROOT && countAt(i) > countAt(i - 1)) {
                return false;
            }
            return isLeaf(i) || countAt(i) == countAt(childOf(i, 0)) + countAt(childOf(i, 1));
        }

        private boolean isLeaf(int i) {
            return childOf(i, 0) == NONE;
        }

        /** How often a TREE was HALVED does not count here. */
        boolean isLike(Tree other) {
            if (form != other.form || size != other.size) {
                return false;
            }
            for (int i = 0; i < size; i++) {
                if (countAt(i) != other.countAt(i) || signAt(i) != other.signAt(i)
                        || childOf(i, 0) != other.childOf(i, 0) || childOf(i, 1) != other.childOf(i, 1)) {
                    return false;
                }
            }
            return true;
        }

        void becomeLike(Tree other) {
            if (other.size > sign.length || other.signs != signs) {
                return;
            }
            form = other.form;
            size = other.size;
            escapePlace = other.escapePlace;
            halvings = other.halvings;
            System.arraycopy(other.count, 0, count, 0, size);
            System.arraycopy(other.sign, 0, sign, 0, size);
            System.arraycopy(other.parent, 0, parent, 0, size);
            System.arraycopy(other.first, 0, first, 0, size);
            System.arraycopy(other.second, 0, second, 0, size);
            System.arraycopy(other.leaf, 0, leaf, 0, signs);
        }
    }
}
