import java.util.ArrayList;
import java.util.HashSet;
import java.util.List;
import java.util.Set;

/**
 * The document once more, word by word and without any cleverness: matches, path assignments and
 * mappings are listed one by one. It shares no code and no idea with the class that it checks.
 */
final class Model {
    static final int NONE = -1, BAD = -2, NO = -3, FULL = -4;

    static final class Element {
        int tag, value;
        Element parent;
        final List<Element> children = new ArrayList<>();
    }

    static final class Node {
        int tag, edge, ordered;
        String test = "";
        Node parent;
        final List<Node> branches = new ArrayList<>();

        boolean passes(int value) {
            if (test.isEmpty()) {
                return true;
            }
            int digit = test.charAt(1) - '0';
            char sign = test.charAt(0);
            return sign == '=' ? value == digit : sign == '<' ? value < digit : value > digit;
        }
    }

    static final class Fault extends Exception {
        final int position, reason;

        Fault(int position, int reason) {
            this.position = position;
            this.reason = reason;
        }
    }

    private Element root = new Element();
    private Node[] twigs = new Node[4];
    private final List<Object[]> kept = new ArrayList<>();
    private String text = "";
    private int reason = 0;
    private final int[] errors = new int[3];

    // ---- lists and relations

    static void list(Element e, List<Element> into) {
        into.add(e);
        for (Element child : e.children) {
            list(child, into);
        }
    }

    List<Element> elements() {
        List<Element> all = new ArrayList<>();
        list(root, all);
        return all;
    }

    static void list(Node q, List<Node> into) {
        into.add(q);
        for (Node branch : q.branches) {
            list(branch, into);
        }
    }

    List<Node> nodesOf(int i) {
        List<Node> all = new ArrayList<>();
        if (twigs[i] != null) {
            list(twigs[i], all);
        }
        return all;
    }

    static int level(Element e) {
        return e.parent == null ? 1 : level(e.parent) + 1;
    }

    static int height(Element e) {
        int height = 0;
        for (Element child : e.children) {
            height = Math.max(height, height(child));
        }
        return height + 1;
    }

    static boolean isBelow(Element low, Element high) {
        for (Element e = low.parent; e != null; e = e.parent) {
            if (e == high) {
                return true;
            }
        }
        return false;
    }

    static boolean isBelow(Node low, Node high) {
        for (Node q = low.parent; q != null; q = q.parent) {
            if (q == high) {
                return true;
            }
        }
        return false;
    }

    static void events(Element e, List<String> into, List<Element> all) {
        into.add("start" + all.indexOf(e));
        for (Element child : e.children) {
            events(child, into, all);
        }
        into.add("end" + all.indexOf(e));
    }

    int position(String event) {
        List<String> events = new ArrayList<>();
        events(root, events, elements());
        return events.indexOf(event) + 1;
    }

    // ---- states

    static Element copy(Element e, Element parent) {
        Element c = new Element();
        c.tag = e.tag;
        c.value = e.value;
        c.parent = parent;
        for (Element child : e.children) {
            c.children.add(copy(child, c));
        }
        return c;
    }

    void keep() {
        kept.add(new Object[] {copy(root, null), twigs.clone()});
        if (kept.size() > 8) {
            kept.remove(0);
        }
    }

    int error(int code) {
        errors[BAD - code]++;
        return code;
    }

    static boolean in(int k, int low, int high) {
        return k >= low && k <= high;
    }

    // ---- the tree

    int adds(int e, int at, int tag, int number) {
        List<Element> all = elements();
        if (!in(e, 0, all.size() - 1) || !in(tag, 0, 5) || !in(number, 0, 9)
                || !in(at, 0, all.get(e).children.size())) {
            return error(BAD);
        }
        if (level(all.get(e)) == 10) {
            return error(NO);
        }
        if (all.size() == 32) {
            return error(FULL);
        }
        keep();
        Element added = new Element();
        added.tag = tag;
        added.value = number;
        added.parent = all.get(e);
        all.get(e).children.add(at, added);
        return elements().indexOf(added);
    }

    int drops(int e) {
        List<Element> all = elements();
        if (!in(e, 0, all.size() - 1)) {
            return error(BAD);
        }
        if (e == 0) {
            return error(NO);
        }
        keep();
        all.get(e).parent.children.remove(all.get(e));
        return all.size() - elements().size();
    }

    int sets(int e, int tag, int number) {
        List<Element> all = elements();
        if (!in(e, 0, all.size() - 1) || !in(tag, 0, 5) || !in(number, 0, 9)) {
            return error(BAD);
        }
        keep();
        Element it = all.get(e);
        int before = 10 * it.tag + it.value;
        it.tag = tag;
        it.value = number;
        return before;
    }

    int moves(int e, int to, int at) {
        List<Element> all = elements();
        if (!in(e, 0, all.size() - 1) || !in(to, 0, all.size() - 1)) {
            return error(BAD);
        }
        Element it = all.get(e);
        Element parent = all.get(to);
        List<Element> others = new ArrayList<>(parent.children);
        others.remove(it);
        if (!in(at, 0, others.size())) {
            return error(BAD);
        }
        if (e == 0 || to == e || isBelow(parent, it) || level(parent) + height(it) > 10) {
            return error(NO);
        }
        keep();
        it.parent.children.remove(it);
        parent.children.add(at, it);
        it.parent = parent;
        return elements().indexOf(it);
    }

    int element(int e, int what) {
        List<Element> all = elements();
        if (!in(e, 0, all.size() - 1) || !in(what, 0, 7)) {
            return error(BAD);
        }
        Element it = all.get(e);
        List<Element> below = new ArrayList<>();
        list(it, below);
        int[] answers = {it.tag, it.value, all.indexOf(it.parent), position("start" + e),
            position("end" + e), level(it), it.children.size(), below.size() - 1};
        return answers[what];
    }

    int size() {
        return elements().size();
    }

    // ---- twigs

    int property(int i, int q, int what) {
        Node it = nodesOf(i).get(q);
        int passing = 0;
        for (int value = 0; value < 10; value++) {
            passing += it.passes(value) ? 1 << value : 0;
        }
        int[] answers = {it.tag, passing, it.edge, it.ordered, nodesOf(i).indexOf(it.parent)};
        return answers[what];
    }

    int node(int i, int q, int what) {
        if (!in(i, 0, 3) || q < 0 || !in(what, 0, 4)) {
            return error(BAD);
        }
        return q >= nodesOf(i).size() ? error(NO) : property(i, q, what);
    }

    int forgets(int i) {
        if (!in(i, 0, 3)) {
            return error(BAD);
        }
        if (twigs[i] == null) {
            return error(NO);
        }
        keep();
        int before = nodesOf(i).size();
        twigs[i] = null;
        return before;
    }

    int nodes(int i) {
        return in(i, 0, 3) ? nodesOf(i).size() : error(BAD);
    }

    boolean anyOrdered(int i) {
        for (Node q : nodesOf(i)) {
            if (q.ordered == 1) {
                return true;
            }
        }
        return false;
    }

    static boolean maps(List<Node> x, Node[] image) {
        for (int k = 0; k < image.length; k++) {
            Node from = x.get(k);
            if (from.tag != 6 && from.tag != image[k].tag) {
                return false;
            }
            for (int value = 0; value < 10; value++) {
                if (image[k].passes(value) && !from.passes(value)) {
                    return false;
                }
            }
            if (from.parent != null) {
                Node above = image[x.indexOf(from.parent)];
                boolean right = from.edge == 1
                        ? image[k].parent == above && image[k].edge == 1 : isBelow(image[k], above);
                if (!right) {
                    return false;
                }
            }
        }
        return true;
    }

    static boolean canMap(List<Node> x, List<Node> targets, Node rootImage, Node[] image) {
        int k = image.length;
        if (!maps(x, image)) {
            return false;
        }
        if (k == x.size()) {
            return true;
        }
        for (Node target : targets) {
            if (k > 0 || rootImage == null || target == rootImage) {
                Node[] longer = java.util.Arrays.copyOf(image, k + 1);
                longer[k] = target;
                if (canMap(x, targets, rootImage, longer)) {
                    return true;
                }
            }
        }
        return false;
    }

    int folds(int x, int y) {
        if (!in(x, 0, 3) || !in(y, 0, 3)) {
            return error(BAD);
        }
        if (twigs[x] == null || twigs[y] == null || anyOrdered(x) || anyOrdered(y)) {
            return error(NO);
        }
        return canMap(nodesOf(x), nodesOf(y), null, new Node[0]) ? 1 : 0;
    }

    int spare(int i, int q) {
        if (!in(i, 0, 3) || q < 1) {
            return error(BAD);
        }
        List<Node> all = nodesOf(i);
        if (q >= all.size() || anyOrdered(i)) {
            return error(NO);
        }
        List<Node> targets = new ArrayList<>();
        for (Node t : all) {
            if (t != all.get(q) && !isBelow(t, all.get(q))) {
                targets.add(t);
            }
        }
        return canMap(all, targets, all.get(0), new Node[0]) ? 1 : 0;
    }

    // ---- matches

    static boolean fit(Element e, Node q) {
        return (q.tag == 6 || q.tag == e.tag) && q.passes(e.value);
    }

    /** All ways to give elements to the nodes that are listed, with or without regard to order. */
    final class Lister {
        final List<Element> all = elements();
        final List<Node> nodes;
        final boolean order;
        final int[] starts = new int[all.size()];
        final int[] ends = new int[all.size()];
        final List<int[]> found = new ArrayList<>();

        Lister(List<Node> nodes, boolean order) {
            this.nodes = nodes;
            this.order = order;
            List<String> events = new ArrayList<>();
            events(root, events, all);
            for (int e = 0; e < all.size(); e++) {
                starts[e] = events.indexOf("start" + e);
                ends[e] = events.indexOf("end" + e);
            }
            extend(new int[0]);
        }

        void extend(int[] chosen) {
            int k = chosen.length;
            if (k == nodes.size()) {
                found.add(chosen);
                return;
            }
            for (int e = 0; e < all.size(); e++) {
                if (allowed(chosen, k, e)) {
                    int[] longer = java.util.Arrays.copyOf(chosen, k + 1);
                    longer[k] = e;
                    extend(longer);
                }
            }
        }

        boolean allowed(int[] chosen, int k, int e) {
            Node q = nodes.get(k);
            if (!fit(all.get(e), q)) {
                return false;
            }
            if (q.parent == null) {
                return true;
            }
            Element above = all.get(chosen[nodes.indexOf(q.parent)]);
            if (q.edge == 1 ? all.get(e).parent != above : !isBelow(all.get(e), above)) {
                return false;
            }
            if (order && q.ordered == 1) {
                Node before = q.parent.branches.get(q.parent.branches.indexOf(q) - 1);
                return starts[e] > ends[chosen[nodes.indexOf(before)]];
            }
            return true;
        }
    }

    List<int[]> listMatches(int i) {
        return new Lister(nodesOf(i), true).found;
    }

    int twigError(int i, boolean bad) {
        return !in(i, 0, 3) || bad ? BAD : twigs[i] == null ? NO : 0;
    }

    int nodeError(int i, int q, boolean bad) {
        return !in(i, 0, 3) || q < 0 || bad ? BAD : q >= nodesOf(i).size() ? NO : 0;
    }

    long matches(int i) {
        int code = twigError(i, false);
        return code != 0 ? error(code) : listMatches(i).size();
    }

    int match(int i, long j, int q) {
        int code = nodeError(i, q, j < 0);
        if (code != 0) {
            return error(code);
        }
        List<int[]> all = listMatches(i);
        return j >= all.size() ? NONE : all.get((int) j)[q];
    }

    long place(int i, long told) {
        int code = twigError(i, told < 0);
        if (code != 0) {
            return error(code);
        }
        List<int[]> all = listMatches(i);
        for (int j = 0; j < all.size(); j++) {
            if (number(all.get(j)) == told) {
                return j;
            }
        }
        return NONE;
    }

    static long number(int[] match) {
        long number = 0;
        for (int e : match) {
            number = number * 32 + e;
        }
        return number;
    }

    int fits(int i, int q) {
        int code = nodeError(i, q, false);
        if (code != 0) {
            error(code);
            return 0;
        }
        int set = 0;
        List<Element> all = elements();
        for (int e = 0; e < all.size(); e++) {
            set |= fit(all.get(e), nodesOf(i).get(q)) ? 1 << e : 0;
        }
        return set;
    }

    int found(int i, int q) {
        int code = nodeError(i, q, false);
        if (code != 0) {
            error(code);
            return 0;
        }
        int set = 0;
        for (int[] match : listMatches(i)) {
            set |= 1 << match[q];
        }
        return set;
    }

    long part(int i, int q, int e) {
        int code = nodeError(i, q, !in(e, 0, size() - 1));
        if (code != 0) {
            return error(code);
        }
        long count = 0;
        for (int[] match : listMatches(i)) {
            count += match[q] == e ? 1 : 0;
        }
        return count;
    }

    long ways(int i, int q, int what) {
        int code = nodeError(i, q, !in(what, 0, 1));
        if (code != 0) {
            return error(code);
        }
        List<Node> all = nodesOf(i);
        List<Node> path = new ArrayList<>();
        for (Node n = all.get(q); n != null; n = n.parent) {
            path.add(0, n);
        }
        if (what == 0) {
            return new Lister(path, false).found.size();
        }
        Set<String> used = new HashSet<>();
        for (int[] match : listMatches(i)) {
            StringBuilder key = new StringBuilder();
            for (Node n : path) {
                key.append(match[all.indexOf(n)]).append(' ');
            }
            used.add(key.toString());
        }
        return used.size();
    }

    long less(int i, int e) {
        int code = twigError(i, !in(e, 0, size() - 1));
        if (code != 0) {
            return error(code);
        }
        if (e == 0) {
            return error(NO);
        }
        long before = listMatches(i).size();
        Element whole = root;
        root = copy(root, null);
        Element it = elements().get(e);
        it.parent.children.remove(it);
        long after = listMatches(i).size();
        root = whole;
        return after - before;
    }

    // ---- texts

    int type(int c) {
        if (!in(c, 0, 127)) {
            return error(BAD);
        }
        if (text.length() == 120) {
            return error(FULL);
        }
        text += (char) c;
        return text.length();
    }

    int clear() {
        int before = text.length();
        text = "";
        return before;
    }

    private int at, read;

    boolean next(String signs) {
        return at < text.length() && signs.indexOf(text.charAt(at)) >= 0;
    }

    char take(String signs) throws Fault {
        if (!next(signs)) {
            throw new Fault(at, 1);
        }
        return text.charAt(at++);
    }

    Element readElement(Element parent, int level) throws Fault {
        Element e = new Element();
        e.parent = parent;
        e.tag = take("abcdef") - 'a';
        if (++read > 32) {
            throw new Fault(at - 1, 2);
        }
        if (level > 10) {
            throw new Fault(at - 1, 3);
        }
        if (next("0123456789")) {
            e.value = take("0123456789") - '0';
        }
        if (next("(")) {
            take("(");
            e.children.add(readElement(e, level + 1));
            while (next("abcdef")) {
                e.children.add(readElement(e, level + 1));
            }
            take(")");
        }
        return e;
    }

    Node readNode(Node parent, int edge, int ordered) throws Fault {
        Node q = new Node();
        q.parent = parent;
        q.edge = edge;
        q.ordered = ordered;
        q.tag = "abcdef*".indexOf(take("abcdef*"));
        if (++read > 6) {
            throw new Fault(at - 1, 2);
        }
        if (next("=<>")) {
            q.test = "" + take("=<>") + take("0123456789");
        }
        if (next("(")) {
            take("(");
            q.branches.add(readNode(q, take("/~") == '/' ? 1 : 2, 0));
            while (next(";/~")) {
                int then = 0;
                if (next(";")) {
                    take(";");
                    then = 1;
                }
                q.branches.add(readNode(q, take("/~") == '/' ? 1 : 2, then));
            }
            take(")");
        }
        return q;
    }

    int fault(Fault fault) {
        reason = fault.reason;
        return -10 - fault.position;
    }

    int builds() {
        at = 0;
        read = 0;
        try {
            Element e = readElement(null, 1);
            if (at < text.length()) {
                throw new Fault(at, 1);
            }
            keep();
            root = e;
            return read;
        } catch (Fault fault) {
            return fault(fault);
        }
    }

    int twigs(int i) {
        if (!in(i, 0, 3)) {
            return error(BAD);
        }
        at = 0;
        read = 0;
        try {
            Node q = readNode(null, 0, 0);
            if (at < text.length()) {
                throw new Fault(at, 1);
            }
            keep();
            twigs[i] = q;
            return read;
        } catch (Fault fault) {
            return fault(fault);
        }
    }

    int why() {
        return reason;
    }

    static String show(Element e) {
        StringBuilder all = new StringBuilder("" + "abcdef".charAt(e.tag));
        all.append(e.value == 0 ? "" : "" + e.value);
        all.append(e.children.isEmpty() ? "" : "(");
        for (Element child : e.children) {
            all.append(show(child));
        }
        return all.append(e.children.isEmpty() ? "" : ")").toString();
    }

    static String show(Node q) {
        StringBuilder all = new StringBuilder(q.ordered == 1 ? ";" : "");
        all.append(q.edge == 0 ? "" : q.edge == 1 ? "/" : "~");
        all.append("abcdef*".charAt(q.tag)).append(q.test);
        all.append(q.branches.isEmpty() ? "" : "(");
        for (Node branch : q.branches) {
            all.append(show(branch));
        }
        return all.append(q.branches.isEmpty() ? "" : ")").toString();
    }

    int shown(int i, int k) {
        if (!in(i, -1, 3) || k < 0) {
            return error(BAD);
        }
        if (i >= 0 && twigs[i] == null) {
            return error(NO);
        }
        String all = i < 0 ? show(root) : show(twigs[i]);
        return k < all.length() ? all.charAt(k) : NONE;
    }

    int back() {
        if (kept.isEmpty()) {
            return error(NO);
        }
        Object[] state = kept.remove(kept.size() - 1);
        root = (Element) state[0];
        twigs = (Node[]) state[1];
        return kept.size();
    }

    int told(int what) {
        if (!in(what, 0, 6)) {
            return error(BAD);
        }
        int exist = 0;
        for (int i = 0; i < 4; i++) {
            exist += twigs[i] != null ? 1 << i : 0;
        }
        int[] answers = {errors[0], errors[1], errors[2], size(), exist, text.length(), kept.size()};
        return answers[what];
    }

    long digest() {
        List<Long> numbers = new ArrayList<>();
        for (int what = 0; what < 7; what++) {
            numbers.add((long) told(what));
        }
        numbers.add((long) reason);
        List<Element> all = elements();
        for (Element e : all) {
            numbers.add((long) e.tag);
            numbers.add((long) e.value);
            numbers.add((long) all.indexOf(e.parent));
        }
        for (int i = 0; i < 4; i++) {
            if (twigs[i] != null) {
                numbers.add((long) nodesOf(i).size());
                for (int q = 0; q < nodesOf(i).size(); q++) {
                    for (int what = 0; what < 5; what++) {
                        numbers.add((long) property(i, q, what));
                    }
                }
                numbers.add((long) listMatches(i).size());
            }
        }
        long h = 1716;
        for (long number : numbers) {
            h = 31 * h + number;
        }
        return h;
    }

    /** A bound on the work of listing the matches of the twigs that exist. */
    double effort() {
        double most = 0;
        for (int i = 0; i < 4; i++) {
            double product = 1;
            List<Node> all = nodesOf(i);
            for (int q = 0; q < all.size(); q++) {
                int fitting = 0;
                for (Element e : elements()) {
                    fitting += fit(e, all.get(q)) ? 1 : 0;
                }
                product *= Math.max(1, fitting);
            }
            most = Math.max(most, product);
        }
        return most;
    }
}
