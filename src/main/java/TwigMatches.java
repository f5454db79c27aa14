/**
 * Twig pattern matching in a tree of elements, as in XML query processing.
 *
 * All rows are made with the object and used again by every call, so that no call makes an object.
 */
public final class TwigMatches {
    public static final int NONE = -1, BAD = -2, NO = -3, FULL = -4;

    private static final int FINE = 0;

    private static final int MAX_ELEMENTS = 32;
    private static final int MAX_LEVEL = 10;
    private static final int TAGS = 6;
    private static final int VALUES = 10;
    private static final int MAX_NODES = 6;
    private static final int TWIGS = 4;
    private static final int MAX_TEXT = 120;
    private static final int MAX_BYTE = 127;
    private static final int MAX_KEPT = 8;

    private static final int ELEMENT_BITS = 5;
    private static final int ALL_VALUES = (1 << VALUES) - 1;

    /** The tag of a node with *. */
    private static final int ANY_TAG = TAGS;

    private static final int NO_EDGE = 0;
    private static final int CHILD_EDGE = 1;
    private static final int BELOW_EDGE = 2;

    private static final int NO_SIGN = 0;

    private static final int CANNOT_STAND = 1;
    private static final int TOO_MANY = 2;
    private static final int TOO_DEEP = 3;

    private static final int FIRST_FAULT = -10;

    private static final int ELEMENT_PROPERTIES = 8;
    private static final int NODE_PROPERTIES = 5;
    private static final int COUNTS = 7;

    private static final long DIGEST_START = 1716;

    private final State now = new State();
    private final State[] kept = new State[MAX_KEPT];
    private int oldestKept = 0;
    private int keptCount = 0;

    private final Text text = new Text();
    private final Tree draftTree = new Tree();
    private final Twig draftTwig = new Twig();
    private final Matcher matcher = new Matcher(now.tree, draftTwig);
    private final Mapping mapping = new Mapping();
    private final Writer writer = new Writer();

    private int badCount = 0;
    private int noCount = 0;
    private int fullCount = 0;

    public TwigMatches() {
        for (int k = 0; k < MAX_KEPT; k++) {
            kept[k] = new State();
        }
        now.tree.append(0, 1);
        now.tree.link();
    }

    // ---- the tree

    public int adds(int e, int at, int tag, int number) {
        Tree tree = now.tree;
        if (!tree.has(e) || !isLabel(tag, number) || at < 0 || at > tree.childCount(e, NONE)) {
            return failed(BAD);
        }
        if (tree.level[e] >= MAX_LEVEL) {
            return failed(NO);
        }
        if (tree.count >= MAX_ELEMENTS) {
            return failed(FULL);
        }
        keep();
        int added = tree.slot(e, at, NONE);
        tree.insert(added, tree.level[e] + 1, tag, number);
        return added;
    }

    public int drops(int e) {
        Tree tree = now.tree;
        if (!tree.has(e)) {
            return failed(BAD);
        }
        if (e == 0) {
            return failed(NO);
        }
        keep();
        int removed = tree.last[e] - e + 1;
        tree.remove(e, removed);
        return removed;
    }

    public int sets(int e, int tag, int number) {
        Tree tree = now.tree;
        if (!tree.has(e) || !isLabel(tag, number)) {
            return failed(BAD);
        }
        keep();
        int before = 10 * tree.tag[e] + tree.value[e];
        tree.tag[e] = tag;
        tree.value[e] = number;
        return before;
    }

    public int moves(int e, int to, int at) {
        Tree tree = now.tree;
        if (!tree.has(e) || !tree.has(to) || at < 0 || at > tree.childCount(to, e)) {
            return failed(BAD);
        }
        boolean intoItself = to >= e && to <= tree.last[e];
        int rise = tree.level[to] + 1 - tree.level[e];
        if (e == 0 || intoItself || tree.deepest(e) + rise > MAX_LEVEL) {
            return failed(NO);
        }
        keep();
        int size = tree.last[e] - e + 1;
        int slot = tree.slot(to, at, e);
        int moved = slot > e ? slot - size : slot;
        draftTree.copyFrom(tree);
        tree.relocate(draftTree, e, moved, rise);
        return moved;
    }

    public int element(int e, int what) {
        Tree tree = now.tree;
        if (!tree.has(e) || what < 0 || what >= ELEMENT_PROPERTIES) {
            return failed(BAD);
        }
        switch (what) {
            case 0:
                return tree.tag[e];
            case 1:
                return tree.value[e];
            case 2:
                return tree.parent[e];
            case 3:
                return tree.start(e);
            case 4:
                return tree.end(e);
            case 5:
                return tree.level[e];
            case 6:
                return tree.childCount(e, NONE);
            default:
                return tree.last[e] - e;
        }
    }

    public int size() {
        return now.tree.count;
    }

    // ---- twigs

    public int node(int i, int q, int what) {
        int fault = nodeFault(i, q, what >= 0 && what < NODE_PROPERTIES);
        return fault == FINE ? now.twigs[i].property(q, what) : failed(fault);
    }

    public int forgets(int i) {
        int fault = twigFault(i, true);
        if (fault != FINE) {
            return failed(fault);
        }
        keep();
        int removed = now.twigs[i].count;
        now.twigs[i].count = 0;
        return removed;
    }

    public int nodes(int i) {
        return isTwigNumber(i) ? now.twigs[i].count : failed(BAD);
    }

    public int folds(int x, int y) {
        if (!isTwigNumber(x) || !isTwigNumber(y)) {
            return failed(BAD);
        }
        Twig from = now.twigs[x];
        Twig into = now.twigs[y];
        if (from.count == 0 || into.count == 0 || from.hasOrdered() || into.hasOrdered()) {
            return failed(NO);
        }
        return mapping.rootTargets(from, into, 0) != 0 ? 1 : 0;
    }

    public int spare(int i, int q) {
        int fault = nodeFault(i, q, q > 0);
        if (fault != FINE) {
            return failed(fault);
        }
        Twig twig = now.twigs[i];
        if (twig.hasOrdered()) {
            return failed(NO);
        }
        return mapping.rootTargets(twig, twig, span(q, twig.last(q))) & 1;
    }

    // ---- matches

    public long matches(int i) {
        int fault = twigFault(i, true);
        return fault == FINE ? countMatches(i) : failed(fault);
    }

    public int match(int i, long j, int q) {
        int fault = nodeFault(i, q, j >= 0);
        if (fault != FINE) {
            return failed(fault);
        }
        if (j >= countMatches(i)) {
            return NONE;
        }
        return matcher.elementOf(j, q);
    }

    public long place(int i, long told) {
        int fault = twigFault(i, told >= 0);
        if (fault != FINE) {
            return failed(fault);
        }
        countMatches(i);
        return matcher.rankOf(told);
    }

    public int fits(int i, int q) {
        int fault = nodeFault(i, q, true);
        if (fault != FINE) {
            failed(fault);
            return 0;
        }
        return fitting(now.tree, now.twigs[i], q);
    }

    public int found(int i, int q) {
        int fault = nodeFault(i, q, true);
        if (fault != FINE) {
            failed(fault);
            return 0;
        }
        countMatches(i);
        matcher.walkPaths(q, true);
        return matcher.reached(q);
    }

    public long part(int i, int q, int e) {
        int fault = nodeFault(i, q, now.tree.has(e));
        if (fault != FINE) {
            return failed(fault);
        }
        matcher.open(now.twigs[i]);
        matcher.pin(q, e);
        return matcher.solve();
    }

    public long ways(int i, int q, int what) {
        int fault = nodeFault(i, q, what == 0 || what == 1);
        if (fault != FINE) {
            return failed(fault);
        }
        countMatches(i);
        matcher.walkPaths(q, what == 1);
        return matcher.pathsTo(q);
    }

    public long less(int i, int e) {
        int fault = twigFault(i, now.tree.has(e));
        if (fault != FINE) {
            return failed(fault);
        }
        if (e == 0) {
            return failed(NO);
        }
        long before = countMatches(i);
        // What is left keeps its relations, so hiding the elements is the same as removing them.
        matcher.hide(span(e, now.tree.last[e]));
        return matcher.solve() - before;
    }

    // ---- texts

    public int type(int c) {
        if (c < 0 || c > MAX_BYTE) {
            return failed(BAD);
        }
        if (text.length >= MAX_TEXT) {
            return failed(FULL);
        }
        text.bytes[text.length] = c;
        text.length++;
        return text.length;
    }

    public int clear() {
        int before = text.length;
        text.length = 0;
        return before;
    }

    public int builds() {
        int fault = text.readDocument(draftTree);
        if (fault != NONE) {
            return FIRST_FAULT - fault;
        }
        keep();
        draftTree.link();
        now.tree.copyFrom(draftTree);
        return now.tree.count;
    }

    public int twigs(int i) {
        if (!isTwigNumber(i)) {
            return failed(BAD);
        }
        int fault = text.readTwig(draftTwig);
        if (fault != NONE) {
            return FIRST_FAULT - fault;
        }
        keep();
        now.twigs[i].copyFrom(draftTwig);
        return draftTwig.count;
    }

    public int why() {
        return text.reason;
    }

    public int shown(int i, int k) {
        int fault = i == NONE ? (k >= 0 ? FINE : BAD) : twigFault(i, k >= 0);
        if (fault != FINE) {
            return failed(fault);
        }
        writer.start(k);
        if (i == NONE) {
            writer.writeTree(now.tree);
        } else {
            writer.writeTwig(now.twigs[i]);
        }
        return writer.caught;
    }

    public int back() {
        if (keptCount == 0) {
            return failed(NO);
        }
        keptCount--;
        now.copyFrom(kept[(oldestKept + keptCount) % MAX_KEPT]);
        return keptCount;
    }

    public int told(int what) {
        return what >= 0 && what < COUNTS ? tally(what) : failed(BAD);
    }

    public long digest() {
        long h = DIGEST_START;
        for (int what = 0; what < COUNTS; what++) {
            h = 31 * h + tally(what);
        }
        h = 31 * h + text.reason;
        Tree tree = now.tree;
        for (int e = 0; e < tree.count; e++) {
            h = 31 * h + tree.tag[e];
            h = 31 * h + tree.value[e];
            h = 31 * h + tree.parent[e];
        }
        for (int i = 0; i < TWIGS; i++) {
            if (now.twigs[i].count > 0) {
                h = 31 * digestTwig(h, now.twigs[i]) + countMatches(i);
            }
        }
        return h;
    }

    // ---- helpers of the calls

    private static long digestTwig(long start, Twig twig) {
        long h = 31 * start + twig.count;
        for (int q = 0; q < twig.count; q++) {
            for (int what = 0; what < NODE_PROPERTIES; what++) {
                h = 31 * h + twig.property(q, what);
            }
        }
        return h;
    }

    private int tally(int what) {
        switch (what) {
            case 0:
                return badCount;
            case 1:
                return noCount;
            case 2:
                return fullCount;
            case 3:
                return now.tree.count;
            case 4:
                return now.existing();
            case 5:
                return text.length;
            default:
                return keptCount;
        }
    }

    private int failed(int code) {
        if (code == BAD) {
            badCount++;
        } else if (code == NO) {
            noCount++;
        } else {
            fullCount++;
        }
        return code;
    }

    private int twigFault(int i, boolean othersInRange) {
        if (!isTwigNumber(i) || !othersInRange) {
            return BAD;
        }
        return now.twigs[i].count == 0 ? NO : FINE;
    }

    private int nodeFault(int i, int q, boolean othersInRange) {
        if (!isTwigNumber(i) || q < 0 || !othersInRange) {
            return BAD;
        }
        return q >= now.twigs[i].count ? NO : FINE;
    }

    private long countMatches(int i) {
        matcher.open(now.twigs[i]);
        return matcher.solve();
    }

    private void keep() {
        kept[(oldestKept + keptCount) % MAX_KEPT].copyFrom(now);
        if (keptCount < MAX_KEPT) {
            keptCount++;
        } else {
            oldestKept = (oldestKept + 1) % MAX_KEPT;
        }
    }

    private static boolean isTwigNumber(int i) {
        return i >= 0 && i < TWIGS;
    }

    private static boolean isLabel(int tag, int number) {
        return tag >= 0 && tag < TAGS && number >= 0 && number < VALUES;
    }

    /** The set of the numbers from one to another one, both within 0 to 31. */
    private static int span(int from, int to) {
        return (-1 << from) & (-1 >>> (MAX_ELEMENTS - 1 - to));
    }

    private static boolean holds(int set, int k) {
        return (set >>> k & 1) != 0;
    }

    private static int fitting(Tree tree, Twig twig, int q) {
        int tag = twig.tag[q];
        int passing = twig.passing(q);
        int set = 0;
        for (int e = 0; e < tree.count; e++) {
            if ((tag == ANY_TAG || tag == tree.tag[e]) && holds(passing, tree.value[e])) {
                set |= 1 << e;
            }
        }
        return set;
    }

    /** Elements in document order; the levels alone give the shape, link() derives the rest of it. */
    private static final class Tree {
        int count = 0;
        final int[] tag = new int[MAX_ELEMENTS];
        final int[] value = new int[MAX_ELEMENTS];
        final int[] level = new int[MAX_ELEMENTS];
        final int[] parent = new int[MAX_ELEMENTS];
        /** The last element below each one, itself if there is none. */
        final int[] last = new int[MAX_ELEMENTS];

        boolean has(int e) {
            return e >= 0 && e < count;
        }

        void copyFrom(Tree other) {
            count = other.count;
            System.arraycopy(other.tag, 0, tag, 0, MAX_ELEMENTS);
            System.arraycopy(other.value, 0, value, 0, MAX_ELEMENTS);
            System.arraycopy(other.level, 0, level, 0, MAX_ELEMENTS);
            System.arraycopy(other.parent, 0, parent, 0, MAX_ELEMENTS);
            System.arraycopy(other.last, 0, last, 0, MAX_ELEMENTS);
        }

        void append(int newTag, int newLevel) {
            if (count < MAX_ELEMENTS) {
                put(count, newTag, 0, newLevel);
                count++;
            }
        }

        void put(int e, int newTag, int newValue, int newLevel) {
            tag[e] = newTag;
            value[e] = newValue;
            level[e] = newLevel;
        }

        void link() {
            for (int e = 0; e < count; e++) {
                int above = e - 1;
                while (above >= 0 && level[above] >= level[e]) {
                    above--;
                }
                parent[e] = above;
                last[e] = e;
            }
            for (int e = count - 1; e > 0; e--) {
                if (parent[e] >= 0) {
                    last[parent[e]] = Math.max(last[parent[e]], last[e]);
                }
            }
        }

        void insert(int at, int newLevel, int newTag, int newValue) {
            for (int e = count; e > at; e--) {
                put(e, tag[e - 1], value[e - 1], level[e - 1]);
            }
            put(at, newTag, newValue, newLevel);
            count++;
            link();
        }

        void remove(int from, int size) {
            count -= size;
            for (int e = from; e < count; e++) {
                put(e, tag[e + size], value[e + size], level[e + size]);
            }
            link();
        }

        /** Takes over the old tree, with element e and everything below it put at another number. */
        void relocate(Tree old, int e, int moved, int rise) {
            int size = old.last[e] - e + 1;
            for (int k = 0; k < count; k++) {
                boolean inside = k >= moved && k < moved + size;
                int others = k < moved ? k : k - size;
                int from = inside ? k - moved + e : others < e ? others : others + size;
                int newLevel = inside ? old.level[from] + rise : old.level[from];
                put(k, old.tag[from], old.value[from], newLevel);
            }
            link();
        }

        int childCount(int e, int uncounted) {
            int children = 0;
            for (int f = e + 1; f <= last[e]; f++) {
                if (parent[f] == e && f != uncounted) {
                    children++;
                }
            }
            return children;
        }

        /** The number that stands behind the first children of e, as many as told. */
        int slot(int e, int children, int uncounted) {
            int slot = e + 1;
            int passed = 0;
            for (int f = e + 1; f <= last[e] && passed < children; f++) {
                if (parent[f] == e && f != uncounted) {
                    passed++;
                    slot = last[f] + 1;
                }
            }
            return slot;
        }

        int deepest(int e) {
            int deepest = level[e];
            for (int f = e + 1; f <= last[e]; f++) {
                deepest = Math.max(deepest, level[f]);
            }
            return deepest;
        }

        /** Before it, e elements begin, and all of these but those above it end. */
        int start(int e) {
            return 2 * e - level[e] + 2;
        }

        int end(int e) {
            return start(e) + 2 * (last[e] - e) + 1;
        }

        /** The last element below e; NONE stands above all elements. */
        int lastBelow(int e) {
            return e == NONE ? count - 1 : last[e];
        }
    }

    /** Nodes in document order; a twig that does not exist has none. */
    private static final class Twig {
        int count = 0;
        final int[] tag = new int[MAX_NODES];
        final int[] sign = new int[MAX_NODES];
        final int[] digit = new int[MAX_NODES];
        final int[] edge = new int[MAX_NODES];
        final int[] ordered = new int[MAX_NODES];
        /** The node whose branch each one is. */
        final int[] above = new int[MAX_NODES];

        void copyFrom(Twig other) {
            count = other.count;
            System.arraycopy(other.tag, 0, tag, 0, MAX_NODES);
            System.arraycopy(other.sign, 0, sign, 0, MAX_NODES);
            System.arraycopy(other.digit, 0, digit, 0, MAX_NODES);
            System.arraycopy(other.edge, 0, edge, 0, MAX_NODES);
            System.arraycopy(other.ordered, 0, ordered, 0, MAX_NODES);
            System.arraycopy(other.above, 0, above, 0, MAX_NODES);
        }

        void append(int newTag, int newEdge, int newOrdered, int newAbove) {
            if (count < MAX_NODES) {
                tag[count] = newTag;
                sign[count] = NO_SIGN;
                digit[count] = 0;
                edge[count] = newEdge;
                ordered[count] = newOrdered;
                above[count] = newAbove;
                count++;
            }
        }

        int property(int q, int what) {
            switch (what) {
                case 0:
                    return tag[q];
                case 1:
                    return passing(q);
                case 2:
                    return edge[q];
                case 3:
                    return ordered[q];
                default:
                    return above[q];
            }
        }

        int passing(int q) {
            int exact = 1 << digit[q];
            switch (sign[q]) {
                case '=':
                    return exact;
                case '<':
                    return exact - 1;
                case '>':
                    return ALL_VALUES & ~(exact | exact - 1);
                default:
                    return ALL_VALUES;
            }
        }

        boolean hasOrdered() {
            for (int q = 0; q < count; q++) {
                if (ordered[q] != 0) {
                    return true;
                }
            }
            return false;
        }

        /** The last node below q, q itself if there is none. */
        int last(int q) {
            int last = q;
            for (int r = q + 1; r < count && above[r] >= q; r++) {
                last = r;
            }
            return last;
        }

        int firstBranch(int q) {
            return q + 1 < count && above[q + 1] == q ? q + 1 : NONE;
        }

        int nextBranch(int q) {
            for (int r = q + 1; r < count; r++) {
                if (above[r] == above[q]) {
                    return r;
                }
            }
            return NONE;
        }

        int previousBranch(int q) {
            for (int r = q - 1; r >= 0; r--) {
                if (above[r] == above[q]) {
                    return r;
                }
            }
            return NONE;
        }

        int depth(int q) {
            int depth = 0;
            for (int r = 0; r < q; r++) {
                if (last(r) >= q) {
                    depth++;
                }
            }
            return depth;
        }
    }

    /** What back() can restore. */
    private static final class State {
        final Tree tree = new Tree();
        final Twig[] twigs = new Twig[TWIGS];

        State() {
            for (int i = 0; i < TWIGS; i++) {
                twigs[i] = new Twig();
            }
        }

        void copyFrom(State other) {
            tree.copyFrom(other.tree);
            for (int i = 0; i < TWIGS; i++) {
                twigs[i].copyFrom(other.twigs[i]);
            }
        }

        int existing() {
            int set = 0;
            for (int i = 0; i < TWIGS; i++) {
                if (twigs[i].count > 0) {
                    set |= 1 << i;
                }
            }
            return set;
        }
    }

    /**
     * Counts matches without listing them, from the last node of the twig to the first.
     *
     * This is right because, once a node has its element, what is below the node and what is not
     * below it are chosen independently of each other; and among the branches of a node, each one
     * depends on the branch before it alone.
     */
    private static final class Matcher {
        final Tree tree;
        Twig twig;
        /** The set of the elements that each node can take. */
        final int[] allowed = new int[MAX_NODES];
        /** For a node and its element, the ways to choose everything below the node. */
        final long[][] whole = new long[MAX_NODES][MAX_ELEMENTS];
        /** The ways for a branch and those after it, if its element has this number or a greater one. */
        final long[][] tail = new long[MAX_NODES][MAX_ELEMENTS + 1];
        /** The ways for a branch and those before it, if its element ends before this one starts. */
        final long[][] head = new long[MAX_NODES][MAX_ELEMENTS + 1];
        /** For a node and its element, the ways to choose the elements of the path down to it. */
        final long[][] paths = new long[MAX_NODES][MAX_ELEMENTS];
        final int[] chosen = new int[MAX_NODES];
        /** For a chosen node, the ways to choose what comes after everything below it. */
        final long[] outer = new long[MAX_NODES];

        Matcher(Tree tree, Twig twig) {
            this.tree = tree;
            this.twig = twig;
        }

        void open(Twig other) {
            twig = other;
            for (int q = 0; q < twig.count; q++) {
                allowed[q] = fitting(tree, twig, q);
            }
        }

        void hide(int elements) {
            for (int q = 0; q < twig.count; q++) {
                allowed[q] &= ~elements;
            }
        }

        void pin(int q, int e) {
            allowed[q] &= 1 << e;
        }

        /** Returns the number of matches in which each node has an allowed element. */
        long solve() {
            for (int q = twig.count - 1; q >= 0; q--) {
                for (int e = 0; e < tree.count; e++) {
                    whole[q][e] = holds(allowed[q], e) ? waysBelow(q, e) : 0;
                }
            }
            fillTail(0, NONE);
            return tail[0][0];
        }

        long waysBelow(int q, int e) {
            int first = twig.firstBranch(q);
            if (first == NONE) {
                return 1;
            }
            spread(q, e);
            return tail[first][e + 1];
        }

        /** Fills the tails of the branches of q for the case that q has element e. */
        void spread(int q, int e) {
            for (int c = twig.last(q); c > q; c--) {
                if (twig.above[c] == q) {
                    fillTail(c, e);
                }
            }
        }

        void fillTail(int c, int e) {
            int end = tree.lastBelow(e);
            int next = twig.nextBranch(c);
            tail[c][end + 1] = 0;
            for (int f = end; f > e; f--) {
                tail[c][f] = tail[c][f + 1];
                if (whole[c][f] != 0 && edgeHolds(c, e, f)) {
                    tail[c][f] += whole[c][f] * waysAfter(next, e, f);
                }
            }
        }

        /** Tells whether the edge of c allows f, which is below e, if the node above c has e. */
        boolean edgeHolds(int c, int e, int f) {
            return twig.edge[c] != CHILD_EDGE || tree.parent[f] == e;
        }

        /** The ways for a branch, if any, and those after it, where the one before it has element f. */
        long waysAfter(int next, int e, int f) {
            if (next == NONE) {
                return 1;
            }
            return tail[next][twig.ordered[next] != 0 ? tree.last[f] + 1 : e + 1];
        }

        void fillHead(int c, int e) {
            int end = tree.lastBelow(e);
            for (int f = e + 1; f <= end + 1; f++) {
                head[c][f] = 0;
            }
            for (int f = e + 1; f <= end; f++) {
                if (whole[c][f] != 0 && edgeHolds(c, e, f)) {
                    head[c][tree.last[f] + 1] += whole[c][f] * waysBefore(c, e, f);
                }
            }
            for (int f = e + 1; f <= end; f++) {
                head[c][f + 1] += head[c][f];
            }
        }

        /** The ways for the branches before c, where c has element f. */
        long waysBefore(int c, int e, int f) {
            int previous = twig.previousBranch(c);
            if (previous == NONE) {
                return 1;
            }
            return head[previous][twig.ordered[c] != 0 ? f : tree.lastBelow(e) + 1];
        }

        int elementAbove(int c) {
            return twig.above[c] == NONE ? NONE : chosen[twig.above[c]];
        }

        /** The least number that the element of c can have after the choices made so far. */
        int least(int c) {
            int previous = twig.previousBranch(c);
            if (previous == NONE || twig.ordered[c] == 0) {
                return elementAbove(c) + 1;
            }
            return tree.last[chosen[previous]] + 1;
        }

        /** The ways to choose what comes after all branches of the node that c is a branch of. */
        long outerAbove(int c) {
            return twig.above[c] == NONE ? 1 : outer[twig.above[c]];
        }

        void choose(int c, int f) {
            chosen[c] = f;
            outer[c] = outerAbove(c) * waysAfter(twig.nextBranch(c), elementAbove(c), f);
            spread(c, f);
        }

        /** Returns the element of a node in a match; there must be so many matches, as solved. */
        int elementOf(long rank, int q) {
            long left = rank;
            for (int c = 0; c <= q; c++) {
                int end = tree.lastBelow(elementAbove(c));
                int f = least(c);
                while (f < end && left >= waysAt(c, f)) {
                    left -= waysAt(c, f);
                    f++;
                }
                choose(c, f);
            }
            return chosen[q];
        }

        long waysAt(int c, int f) {
            return (tail[c][f] - tail[c][f + 1]) * outerAbove(c);
        }

        /** Returns the number of the match whose elements are the digits, NONE if there is none. */
        long rankOf(long digits) {
            if (digits >>> ELEMENT_BITS * twig.count != 0) {
                return NONE;
            }
            long rank = 0;
            for (int c = 0; c < twig.count; c++) {
                int shift = ELEMENT_BITS * (twig.count - 1 - c);
                int f = (int) (digits >>> shift & MAX_ELEMENTS - 1);
                int least = least(c);
                if (f < least || f > tree.lastBelow(elementAbove(c)) || waysAt(c, f) == 0) {
                    return NONE;
                }
                rank += (tail[c][least] - tail[c][f]) * outerAbove(c);
                choose(c, f);
            }
            return rank;
        }

        /** Counts the path assignments down to q, all of them or those that are used. */
        void walkPaths(int q, boolean used) {
            for (int e = 0; e < tree.count; e++) {
                boolean taken = used ? whole[0][e] != 0 : holds(allowed[0], e);
                paths[0][e] = taken ? 1 : 0;
            }
            for (int c = 1; c <= q; c++) {
                if (twig.last(c) >= q) {
                    stepDown(c, used);
                }
            }
        }

        void stepDown(int c, boolean used) {
            int d = twig.above[c];
            for (int f = 0; f < tree.count; f++) {
                paths[c][f] = 0;
            }
            for (int e = 0; e < tree.count; e++) {
                if (paths[d][e] != 0) {
                    if (used) {
                        spread(d, e);
                        fillHeadsBefore(c, e);
                    }
                    lengthenPaths(c, e, used);
                }
            }
        }

        void fillHeadsBefore(int c, int e) {
            for (int b = twig.above[c] + 1; b < c; b++) {
                if (twig.above[b] == twig.above[c]) {
                    fillHead(b, e);
                }
            }
        }

        void lengthenPaths(int c, int e, boolean used) {
            long soFar = paths[twig.above[c]][e];
            for (int f = e + 1; f <= tree.last[e]; f++) {
                if (used ? isUsed(c, e, f) : holds(allowed[c], f) && edgeHolds(c, e, f)) {
                    paths[c][f] += soFar;
                }
            }
        }

        /** Tells whether all branches beside c can be chosen if c has element f. */
        boolean isUsed(int c, int e, int f) {
            return whole[c][f] != 0 && edgeHolds(c, e, f) && waysBefore(c, e, f) != 0
                    && waysAfter(twig.nextBranch(c), e, f) != 0;
        }

        /** The set of the elements of q on the paths that were walked. */
        int reached(int q) {
            int set = 0;
            for (int e = 0; e < tree.count; e++) {
                if (paths[q][e] != 0) {
                    set |= 1 << e;
                }
            }
            return set;
        }

        long pathsTo(int q) {
            long sum = 0;
            for (int e = 0; e < tree.count; e++) {
                sum += paths[q][e];
            }
            return sum;
        }
    }

    /** Maps twigs without ordered nodes; there the branches of a node are mapped independently. */
    private static final class Mapping {
        /** The nodes that each node can be assigned to, so that everything below it can be mapped. */
        final int[] targets = new int[MAX_NODES];

        /** Returns the nodes of y that node 0 of x can be assigned to, if some nodes are not used. */
        int rootTargets(Twig x, Twig y, int unused) {
            for (int a = x.count - 1; a >= 0; a--) {
                int set = 0;
                for (int b = 0; b < y.count; b++) {
                    if (!holds(unused, b) && covers(x, a, y, b) && branchesMap(x, a, y, b)) {
                        set |= 1 << b;
                    }
                }
                targets[a] = set;
            }
            return targets[0];
        }

        boolean covers(Twig x, int a, Twig y, int b) {
            boolean sameTag = x.tag[a] == ANY_TAG || x.tag[a] == y.tag[b];
            return sameTag && (y.passing(b) & ~x.passing(a)) == 0;
        }

        boolean branchesMap(Twig x, int a, Twig y, int b) {
            for (int c = a + 1; c < x.count; c++) {
                if (x.above[c] == a && (targets[c] & placesBelow(x.edge[c], y, b)) == 0) {
                    return false;
                }
            }
            return true;
        }

        /** The nodes of y that a branch with this edge can be assigned to below b. */
        int placesBelow(int edge, Twig y, int b) {
            int set = 0;
            int last = y.last(b);
            for (int d = b + 1; d <= last; d++) {
                if (edge == BELOW_EDGE || y.above[d] == b && y.edge[d] == CHILD_EDGE) {
                    set |= 1 << d;
                }
            }
            return set;
        }
    }

    /** The text, and the reading of it as a document or as a twig. */
    private static final class Text {
        // What was read last; it decides what can stand next.
        private static final int WANTS_NAME = 0;
        private static final int WANTS_EDGE = 1;
        private static final int WANTS_DIGIT = 2;
        private static final int NAMED = 3;
        private static final int TESTED = 4;
        private static final int CLOSED = 5;

        final int[] bytes = new int[MAX_TEXT];
        int length = 0;
        /** The reason of the latest fault, 0 if there was none yet. */
        int reason = 0;

        /** Returns the position of the fault, NONE if there is none. The tree is not linked yet. */
        int readDocument(Tree draft) {
            draft.count = 0;
            int step = WANTS_NAME;
            int level = 1;
            for (int k = 0; k < length; k++) {
                int c = bytes[k];
                if (isLetter(c) && (step == WANTS_NAME || level > 1)) {
                    if (draft.count >= MAX_ELEMENTS) {
                        return fault(k, TOO_MANY);
                    }
                    if (level > MAX_LEVEL) {
                        return fault(k, TOO_DEEP);
                    }
                    draft.append(c - 'a', level);
                    step = NAMED;
                } else if (isDigit(c) && step == NAMED) {
                    draft.value[draft.count - 1] = c - '0';
                    step = TESTED;
                } else if (c == '(' && (step == NAMED || step == TESTED)) {
                    level++;
                    step = WANTS_NAME;
                } else if (c == ')' && isWhole(step) && level > 1) {
                    level--;
                    step = CLOSED;
                } else {
                    return fault(k, CANNOT_STAND);
                }
            }
            return isWhole(step) && level == 1 ? NONE : fault(length, CANNOT_STAND);
        }

        /** Returns the position of the fault, NONE if there is none. */
        int readTwig(Twig draft) {
            draft.count = 0;
            int step = WANTS_NAME;
            int open = NONE;
            int edge = NO_EDGE;
            int ordered = 0;
            for (int k = 0; k < length; k++) {
                int c = bytes[k];
                if (step == WANTS_NAME && (isLetter(c) || c == '*')) {
                    if (draft.count >= MAX_NODES) {
                        return fault(k, TOO_MANY);
                    }
                    draft.append(c == '*' ? ANY_TAG : c - 'a', edge, ordered, open);
                    ordered = 0;
                    step = NAMED;
                } else if (step == NAMED && (c == '=' || c == '<' || c == '>')) {
                    draft.sign[draft.count - 1] = c;
                    step = WANTS_DIGIT;
                } else if (step == WANTS_DIGIT && isDigit(c)) {
                    draft.digit[draft.count - 1] = c - '0';
                    step = TESTED;
                } else if (c == '(' && (step == NAMED || step == TESTED)) {
                    open = draft.count - 1;
                    step = WANTS_EDGE;
                } else if ((c == '/' || c == '~') && open != NONE
                        && (step == WANTS_EDGE || isWhole(step))) {
                    edge = c == '/' ? CHILD_EDGE : BELOW_EDGE;
                    step = WANTS_NAME;
                } else if (c == ';' && open != NONE && isWhole(step)) {
                    ordered = 1;
                    step = WANTS_EDGE;
                } else if (c == ')' && open != NONE && isWhole(step)) {
                    open = draft.above[open];
                    step = CLOSED;
                } else {
                    return fault(k, CANNOT_STAND);
                }
            }
            return isWhole(step) && open == NONE ? NONE : fault(length, CANNOT_STAND);
        }

        int fault(int position, int newReason) {
            reason = newReason;
            return position;
        }

        /** Tells whether what was read last can be the end of an element or of a node. */
        static boolean isWhole(int step) {
            return step == NAMED || step == TESTED || step == CLOSED;
        }

        static boolean isLetter(int c) {
            return c >= 'a' && c < 'a' + TAGS;
        }

        static boolean isDigit(int c) {
            return c >= '0' && c < '0' + VALUES;
        }
    }

    /** Writes the text of a tree or a twig, and catches the one byte that is wanted. */
    private static final class Writer {
        int wanted = 0;
        int written = 0;
        int caught = NONE;

        void start(int k) {
            wanted = k;
            written = 0;
            caught = NONE;
        }

        void put(int c) {
            if (written == wanted) {
                caught = c;
            }
            written++;
        }

        /** Writes what stands between two things at these depths, the second one the next in order. */
        void putParentheses(int depth, int nextDepth) {
            if (nextDepth > depth) {
                put('(');
            }
            for (int k = nextDepth; k < depth; k++) {
                put(')');
            }
        }

        void writeTree(Tree tree) {
            for (int e = 0; e < tree.count; e++) {
                put('a' + tree.tag[e]);
                if (tree.value[e] != 0) {
                    put('0' + tree.value[e]);
                }
                putParentheses(tree.level[e], e + 1 < tree.count ? tree.level[e + 1] : 1);
            }
        }

        void writeTwig(Twig twig) {
            for (int q = 0; q < twig.count; q++) {
                if (twig.ordered[q] != 0) {
                    put(';');
                }
                if (twig.edge[q] != NO_EDGE) {
                    put(twig.edge[q] == CHILD_EDGE ? '/' : '~');
                }
                put(twig.tag[q] == ANY_TAG ? '*' : 'a' + twig.tag[q]);
                if (twig.sign[q] != NO_SIGN) {
                    put(twig.sign[q]);
                    put('0' + twig.digit[q]);
                }
                putParentheses(twig.depth(q), q + 1 < twig.count ? twig.depth(q + 1) : 0);
            }
        }
    }
}
