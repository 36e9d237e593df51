import java.util.ArrayList;
import java.util.List;

/** The document once more, as slow and as plain as can be, with nodes that are objects. */
final class Model {
    static final class Node {
        int count;
        int sign = -1;
        Node parent;
        Node zero;
        Node one;
    }

    /** For COUNTED the list is in the order of PLACES, for SPLAYED in that of the nodes' numbers. */
    static final class Tree {
        int form;
        int halved;
        List<Node> nodes = new ArrayList<>();

        Node root() {
            for (Node node : nodes) {
                if (node.parent == null) {
                    return node;
                }
            }
            throw new AssertionError("no root");
        }

        Node withSign(int sign) {
            for (Node node : nodes) {
                if (node.sign == sign) {
                    return node;
                }
            }
            return null;
        }

        Tree copy() {
            Tree to = new Tree();
            to.form = form;
            to.halved = halved;
            for (Node node : nodes) {
                Node twin = new Node();
                twin.count = node.count;
                twin.sign = node.sign;
                to.nodes.add(twin);
            }
            for (int i = 0; i < nodes.size(); i++) {
                Node node = nodes.get(i);
                if (node.zero != null) {
                    adopt(to.nodes.get(i), to.nodes.get(nodes.indexOf(node.zero)), to.nodes.get(nodes.indexOf(node.one)));
                }
            }
            return to;
        }

        String text() {
            StringBuilder text = new StringBuilder("form " + form);
            for (Node node : nodes) {
                text.append(" / ").append(node.count).append(' ').append(node.sign).append(' ')
                        .append(nodes.indexOf(node.parent)).append(' ').append(nodes.indexOf(node.zero))
                        .append(' ').append(nodes.indexOf(node.one));
            }
            return text.toString();
        }
    }

    final int n;
    final int width;
    int limit = 1000;
    final Tree[][] trees = new Tree[2][4];
    final Tree[] slots = new Tree[4];
    final StringBuilder bits = new StringBuilder();
    int pulled = 0;
    int readerTree = -1;
    String readerBits = "";

    Model(int signs) {
        n = signs < 2 ? 2 : signs > 64 ? 64 : signs;
        width = Integer.toBinaryString(n - 1).length();
        for (int t = 0; t < 4; t++) {
            trees[0][t] = fresh(0);
            trees[1][t] = fresh(0);
        }
    }

    static void adopt(Node parent, Node zero, Node one) {
        parent.zero = zero;
        parent.one = one;
        zero.parent = parent;
        one.parent = parent;
    }

    Tree fresh(int form) {
        Tree tree = new Tree();
        tree.form = form;
        int many = form == 0 ? 1 : 2 * n - 1;
        for (int i = 0; i < many; i++) {
            tree.nodes.add(new Node());
        }
        if (form == 0) {
            tree.nodes.get(0).sign = -2;
            return tree;
        }
        for (int k = 0; k < n - 1; k++) {
            adopt(tree.nodes.get(k), tree.nodes.get(2 * k + 1), tree.nodes.get(2 * k + 2));
        }
        for (int s = 0; s < n; s++) {
            tree.nodes.get(n - 1 + s).sign = s;
        }
        return tree;
    }

    static String way(Node node) {
        if (node.parent == null) {
            return "";
        }
        return way(node.parent) + (node.parent.zero == node ? "0" : "1");
    }

    String codeOf(Tree tree, int sign) {
        Node leaf = tree.withSign(sign);
        if (leaf != null) {
            return way(leaf);
        }
        StringBuilder text = new StringBuilder(Integer.toBinaryString(sign));
        while (text.length() < width) {
            text.insert(0, '0');
        }
        return way(tree.withSign(-2)) + text;
    }

    /** Hangs each one below the other one's PARENT, where the other one hung. */
    static void trade(Node x, Node y) {
        Node px = x.parent;
        Node py = y.parent;
        boolean xZero = px.zero == x;
        boolean yZero = py.zero == y;
        if (xZero) {
            px.zero = y;
        } else {
            px.one = y;
        }
        if (yZero) {
            py.zero = x;
        } else {
            py.one = x;
        }
        x.parent = py;
        y.parent = px;
    }

    void step(Tree tree, int sign) {
        if (tree.form == 1) {
            Node node = tree.withSign(sign);
            while (node.parent != null && node.parent.parent != null) {
                Node top = node.parent.parent;
                trade(node, top.zero == node.parent ? top.one : top.zero);
                node = top;
            }
            return;
        }
        if (tree.withSign(sign) == null) {
            Node old = tree.withSign(-2);
            old.sign = -1;
            Node leaf = new Node();
            leaf.sign = sign;
            Node escape = new Node();
            escape.sign = -2;
            adopt(old, leaf, escape);
            tree.nodes.add(leaf);
            tree.nodes.add(escape);
        }
        for (Node node = tree.withSign(sign); node != null; node = node.parent) {
            moveAhead(tree.nodes, node);
            node.count++;
        }
        if (tree.root().count >= limit) {
            halve(tree);
        }
    }

    static void moveAhead(List<Node> nodes, Node node) {
        for (Node other : nodes) {
            if (other.count != node.count || other == node || other == node.parent) {
                continue;
            }
            int there = nodes.indexOf(other);
            int here = nodes.indexOf(node);
            if (there < here) {
                trade(node, other);
                nodes.set(there, node);
                nodes.set(here, other);
            }
            return;
        }
    }

    static void halve(Tree tree) {
        List<Node> row = new ArrayList<>();
        for (Node node : tree.nodes) {
            if (node.zero == null) {
                node.count = node.sign >= 0 ? node.count - node.count / 2 : node.count;
                node.parent = null;
                row.add(node);
            }
        }
        List<Node> backward = new ArrayList<>();
        while (row.size() >= 2) {
            Node last = row.remove(row.size() - 1);
            Node ahead = row.remove(row.size() - 1);
            backward.add(last);
            backward.add(ahead);
            Node both = new Node();
            both.count = last.count + ahead.count;
            adopt(both, ahead, last);
            int behind = 0;
            for (int i = 0; i < row.size(); i++) {
                if (row.get(i).count >= both.count) {
                    behind = i + 1;
                }
            }
            row.add(behind, both);
        }
        backward.add(row.get(0));
        tree.nodes.clear();
        for (int i = backward.size() - 1; i >= 0; i--) {
            tree.nodes.add(backward.get(i));
        }
        tree.halved++;
    }

    static boolean in(int i, int many) {
        return 0 <= i && i < many;
    }

    int form(int t, int f) {
        if (!in(t, 4)) return -2;
        if (!in(f, 2)) return -3;
        int was = trees[0][t].form;
        trees[0][t] = fresh(f);
        trees[1][t] = fresh(f);
        if (readerTree == t) begin();
        return was;
    }

    void begin() {
        readerTree = -1;
        readerBits = "";
    }

    int limit(int to) {
        if (to < 8 || to > 100000) return -3;
        int was = limit;
        limit = to;
        return was;
    }

    int put(int t, int sign) {
        if (!in(t, 4)) return -2;
        if (!in(sign, n)) return -3;
        String code = codeOf(trees[0][t], sign);
        if (bits.length() + code.length() > 1000) return -5;
        bits.append(code);
        step(trees[0][t], sign);
        return code.length();
    }

    int bits() {
        return bits.length();
    }

    int bit(int i) {
        return in(i, bits.length()) ? bits.charAt(i) - '0' : -1;
    }

    int drop() {
        int was = bits.length();
        bits.setLength(0);
        pulled = 0;
        begin();
        return was;
    }

    /** Knows a CODE by holding all bits so far against every CODE that there is. */
    int get(int t, boolean bit) {
        if (!in(t, 4)) return -2;
        if (readerTree >= 0 && readerTree != t) return -4;
        readerTree = t;
        readerBits = readerBits + (bit ? "1" : "0");
        Tree tree = trees[1][t];
        for (int sign = 0; sign < n; sign++) {
            if (codeOf(tree, sign).equals(readerBits)) {
                begin();
                step(tree, sign);
                return sign;
            }
        }
        if (tree.form == 0) {
            String toEscape = way(tree.withSign(-2));
            if (readerBits.startsWith(toEscape) && readerBits.length() == toEscape.length() + width) {
                begin();
                return -6;
            }
        }
        return -1;
    }

    int pull(int t) {
        if (!in(t, 4)) return -2;
        if (readerTree >= 0 && readerTree != t) return -4;
        int answer = -1;
        while (answer == -1 && pulled < bits.length()) {
            pulled++;
            answer = get(t, bits.charAt(pulled - 1) == '1');
        }
        return answer;
    }

    int pulled() {
        return pulled;
    }

    int cost(int end, int t, int sign) {
        if (!in(end, 2) || !in(t, 4)) return -2;
        return in(sign, n) ? codeOf(trees[end][t], sign).length() : -3;
    }

    int code(int end, int t, int sign, int i) {
        if (!in(end, 2) || !in(t, 4)) return -2;
        if (!in(sign, n)) return -3;
        String code = codeOf(trees[end][t], sign);
        return in(i, code.length()) ? code.charAt(i) - '0' : -1;
    }

    int knows(int end, int t, int sign) {
        if (!in(end, 2) || !in(t, 4)) return -2;
        if (!in(sign, n)) return -3;
        return trees[end][t].withSign(sign) != null ? 1 : 0;
    }

    int escape(int end, int t) {
        if (!in(end, 2) || !in(t, 4)) return -2;
        Node escape = trees[end][t].withSign(-2);
        return escape == null ? -1 : way(escape).length();
    }

    int halved(int end, int t) {
        return in(end, 2) && in(t, 4) ? trees[end][t].halved : -2;
    }

    int nodes(int end, int t) {
        return in(end, 2) && in(t, 4) ? trees[end][t].nodes.size() : -2;
    }

    long node(int end, int t, int i, int what) {
        if (!in(end, 2) || !in(t, 4) || !in(what, 4)) return Check.THROWS;
        List<Node> nodes = trees[end][t].nodes;
        if (!in(i, nodes.size())) return Check.THROWS;
        Node node = nodes.get(i);
        if (what == 0) return node.count;
        if (what == 1) return node.sign;
        return nodes.indexOf(what == 2 ? node.parent : node.zero);
    }

    int well(int end, int t) {
        if (!in(end, 2) || !in(t, 4)) return -2;
        Tree tree = trees[end][t];
        int most = Integer.MAX_VALUE;
        List<Integer> seen = new ArrayList<>();
        for (Node node : tree.nodes) {
            if (node.zero != null && (node.zero.parent != node || node.one.parent != node)) return 0;
            if (node.sign >= 0 && seen.contains(node.sign)) return 0;
            seen.add(node.sign);
            if (tree.form == 1) continue;
            if (node.count > most) return 0;
            if (node.zero != null && node.count != node.zero.count + node.one.count) return 0;
            most = node.count;
        }
        return 1;
    }

    int same(int t) {
        if (!in(t, 4)) return -2;
        return trees[0][t].text().equals(trees[1][t].text()) ? 1 : 0;
    }

    int save(int slot, int end, int t) {
        if (!in(slot, 4) || !in(end, 2) || !in(t, 4)) return -2;
        int had = slots[slot] != null ? 1 : 0;
        slots[slot] = trees[end][t].copy();
        return had;
    }

    int restore(int slot, int end, int t) {
        if (!in(slot, 4) || !in(end, 2) || !in(t, 4)) return -2;
        if (slots[slot] == null) return -4;
        trees[end][t] = slots[slot].copy();
        if (end == 1 && readerTree == t) begin();
        return trees[end][t].form;
    }
}
