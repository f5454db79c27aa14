/** Promises 1 to 7, sentence by sentence: a new object, and the tree. */
final class TreePromises {
    private static final int NONE = TwigMatches.NONE, BAD = TwigMatches.BAD;
    private static final int NO = TwigMatches.NO, FULL = TwigMatches.FULL;
    private static final int MIN = Integer.MIN_VALUE, MAX = Integer.MAX_VALUE;
    /** Numbers that no element of a tree with eight elements has. */
    private static final int[] NO_ELEMENT = {-1, 8, 31, 32, MIN, MAX};
    private static final int[] NO_TAG = {-1, 6, MIN, MAX};
    private static final int[] NO_VALUE = {-1, 10, MIN, MAX};
    private final Sentences s;

    TreePromises(Sentences s) {
        this.s = s;
    }

    void all() {
        newObject();
        s.promise(2);
        adds();
        addsRefused();
        s.promise(3);
        drops();
        s.promise(4);
        sets();
        s.promise(5);
        moves();
        movesAt();
        movesRefused();
        movesTooDeep();
        s.promise(6);
        element();
        s.promise(7);
        size();
    }

    private void newObject() {
        s.promise(1);
        s.says("Creates the initial tree, without twigs, with an empty text and no kept states.");
        for (int k = 0; k < 7; k++) {
            int what = k;
            s.answers("told(" + what + ")", x -> x.told(what), what == 3 ? 1 : 0);
        }
        s.answers("size()", x -> x.size(), 1);
        s.answers("shown(NONE, 0)", x -> x.shown(NONE, 0), 'a');
        s.answers("shown(NONE, 1)", x -> x.shown(NONE, 1), NONE);
        s.answers("clear()", x -> x.clear(), 0);
        s.answers("why()", x -> x.why(), 0);
        s.refuses("back()", x -> x.back(), NO);
        s.refuses("forgets(0)", x -> x.forgets(0), NO);
        // Objects have nothing in common.
        TwigMatches other = Setups.usual();
        other.type('a');
        s.answers("size() beside another object", x -> x.size(), 1);
        s.answers("told(5) beside another object", x -> x.told(5), 0);
    }

    /** A change of the usual tree, which then is in all respects as if it had been read so. */
    private void tree(String call, Sentences.Call change, long want, String then) {
        tree(call, Setups.usual(), change, want, then);
    }

    private void tree(String call, TwigMatches x, Sentences.Call change, long want, String then) {
        s.due(call, change.on(x), want);
        s.due(call + ", then the tree", Checks.tree(x), then);
        TwigMatches read = Checks.made(then);
        s.due(call + ", then the size", x.size(), read.size());
        for (int e = 0; e < read.size(); e++) {
            for (int what = 0; what < 8; what++) {
                s.due(call + ", then element(" + e + ", " + what + ")", x.element(e, what), read.element(e, what));
            }
        }
    }

    private void adds() {
        s.says("Adds an element as a child.");
        tree("adds below a leaf", x -> x.adds(2, 0, 5, 9), 3, "a(b(c(f9))b(a(b2)c)c3)");
        tree("adds below the last element", x -> x.adds(7, 0, 0, 0), 8, "a(b(c)b(a(b2)c)c3(a))");
        s.says("the parent, an element");
        s.with(Setups::usual);
        for (int e : NO_ELEMENT) {
            s.refuses("adds(" + e + ", 0, 0, 0)", x -> x.adds(e, 0, 0, 0), BAD);
        }
        s.says("the index of the child before which it is inserted, from 0; the number of children to "
                + "insert it after all");
        tree("adds at 0 of 3", x -> x.adds(0, 0, 4, 4), 1, "a(e4b(c)b(a(b2)c)c3)");
        tree("adds at 1 of 3", x -> x.adds(0, 1, 4, 4), 3, "a(b(c)e4b(a(b2)c)c3)");
        tree("adds at 2 of 3", x -> x.adds(0, 2, 4, 4), 7, "a(b(c)b(a(b2)c)e4c3)");
        tree("adds at 3 of 3", x -> x.adds(0, 3, 4, 4), 8, "a(b(c)b(a(b2)c)c3e4)");
        tree("adds at 2 of 2", x -> x.adds(3, 2, 4, 4), 7, "a(b(c)b(a(b2)ce4)c3)");
        s.with(Setups::usual);
        for (int at : new int[] {-1, 4, MIN, MAX}) {
            s.refuses("adds(0, " + at + ", 0, 0)", x -> x.adds(0, at, 0, 0), BAD);
        }
        s.refuses("adds(2, 1, 0, 0), to a leaf", x -> x.adds(2, 1, 0, 0), BAD);
        s.says("its tag, 0 to 5");
        s.with(Setups::usual);
        for (int tag : NO_TAG) {
            s.refuses("adds(0, 0, " + tag + ", 0)", x -> x.adds(0, 0, tag, 0), BAD);
        }
        tree("adds with tag 0", x -> x.adds(0, 0, 0, 1), 1, "a(a1b(c)b(a(b2)c)c3)");
        tree("adds with tag 5", x -> x.adds(0, 0, 5, 1), 1, "a(f1b(c)b(a(b2)c)c3)");
        s.says("its value, 0 to 9");
        s.with(Setups::usual);
        for (int number : NO_VALUE) {
            s.refuses("adds(0, 0, 0, " + number + ")", x -> x.adds(0, 0, 0, number), BAD);
        }
        tree("adds with value 0", x -> x.adds(0, 0, 1, 0), 1, "a(bb(c)b(a(b2)c)c3)");
        tree("adds with value 9", x -> x.adds(0, 0, 1, 9), 1, "a(b9b(c)b(a(b2)c)c3)");
    }

    private void addsRefused() {
        s.says("Returns the number of the new element;");
        s.with(Setups::usual);
        s.answers("adds(3, 1, 0, 0)", x -> x.adds(3, 1, 0, 0), 6);
        s.answers("adds(5, 0, 0, 0)", x -> x.adds(5, 0, 0, 0), 6);
        s.says("BAD if an argument is not as described;");
        s.refuses("adds(1, 0, 0, 0) to the first tree", x -> x.adds(1, 0, 0, 0), BAD);
        s.refuses("adds(0, 1, 0, 0) to the first tree", x -> x.adds(0, 1, 0, 0), BAD);
        s.refuses("adds(-1, -1, -1, -1)", x -> x.adds(-1, -1, -1, -1), BAD);
        s.says("NO if its level would be above 10;");
        s.with(Setups::chain);
        s.answers("adds with level 10", x -> x.adds(8, 0, 0, 0), 9);
        s.refuses("adds with level 11", x -> x.adds(9, 0, 0, 0), NO);
        s.with(Setups::broom);
        s.refuses("adds with level 11 to 32 elements", x -> x.adds(9, 0, 0, 0), NO);
        s.says("FULL if there are 32 elements already.");
        s.with(Setups::star);
        s.refuses("adds in front", x -> x.adds(0, 0, 0, 0), FULL);
        s.refuses("adds after all", x -> x.adds(0, 31, 0, 0), FULL);
        s.refuses("adds below the last", x -> x.adds(31, 0, 0, 0), FULL);
        s.with(() -> {
            TwigMatches x = Setups.star();
            x.drops(31);
            return x;
        });
        s.answers("adds after a place has become free", x -> x.adds(30, 0, 0, 0), 31);
    }

    private void drops() {
        s.says("Removes an element with everything below it.");
        tree("drops(1)", x -> x.drops(1), 2, "a(b(a(b2)c)c3)");
        tree("drops(3)", x -> x.drops(3), 4, "a(b(c)c3)");
        tree("drops(4)", x -> x.drops(4), 2, "a(b(c)b(c)c3)");
        tree("drops(7)", x -> x.drops(7), 1, "a(b(c)b(a(b2)c))");
        s.says("the element");
        s.with(Setups::usual);
        s.answers("drops(7), the last one", x -> x.drops(7), 1);
        s.says("Returns the number of elements removed;");
        s.with(Setups::chain);
        s.answers("drops of a leaf", x -> x.drops(9), 1);
        s.answers("drops of all but the root", x -> x.drops(1), 9);
        s.with(Setups::star);
        s.answers("drops(31)", x -> x.drops(31), 1);
        s.says("BAD if there is no such element;");
        s.with(Setups::usual);
        for (int e : NO_ELEMENT) {
            s.refuses("drops(" + e + ")", x -> x.drops(e), BAD);
        }
        s.with(TwigMatches::new);
        s.refuses("drops(1) of the first tree", x -> x.drops(1), BAD);
        s.says("NO if it is the root.");
        s.refuses("drops(0) of the first tree", x -> x.drops(0), NO);
        s.with(Setups::usual);
        s.refuses("drops(0)", x -> x.drops(0), NO);
        s.with(Setups::star);
        s.refuses("drops(0) of 32", x -> x.drops(0), NO);
    }

    private void sets() {
        s.says("Sets the tag and the value of an element.");
        tree("sets(0, 5, 9)", x -> x.sets(0, 5, 9), 0, "f9(b(c)b(a(b2)c)c3)");
        tree("sets(7, 0, 0)", x -> x.sets(7, 0, 0), 23, "a(b(c)b(a(b2)c)a)");
        s.says("the element");
        s.with(Setups::usual);
        for (int e : NO_ELEMENT) {
            s.refuses("sets(" + e + ", 0, 0)", x -> x.sets(e, 0, 0), BAD);
        }
        s.says("the new tag, 0 to 5");
        s.with(Setups::usual);
        for (int tag : NO_TAG) {
            s.refuses("sets(0, " + tag + ", 0)", x -> x.sets(0, tag, 0), BAD);
        }
        s.answers("sets(0, 0, 0)", x -> x.sets(0, 0, 0), 0);
        s.answers("sets(0, 5, 0)", x -> x.sets(0, 5, 0), 0);
        s.says("the new value, 0 to 9");
        s.with(Setups::usual);
        for (int number : NO_VALUE) {
            s.refuses("sets(0, 0, " + number + ")", x -> x.sets(0, 0, number), BAD);
        }
        s.answers("sets(5, 0, 0)", x -> x.sets(5, 0, 0), 12);
        s.answers("sets(5, 0, 9)", x -> x.sets(5, 0, 9), 12);
        s.says("Returns 10 * (previous tag) + (previous value);");
        s.with(() -> Checks.made("a0(f9b)"));
        s.answers("sets of a0", x -> x.sets(0, 3, 3), 0);
        s.answers("sets of f9", x -> x.sets(1, 3, 3), 59);
        s.answers("sets of b0", x -> x.sets(2, 3, 3), 10);
        s.says("BAD if an argument is not as described.");
        s.refuses("sets(1, 0, 0) in the first tree", x -> x.sets(1, 0, 0), BAD);
        s.refuses("sets(-1, -1, -1)", x -> x.sets(-1, -1, -1), BAD);
    }

    private void moves() {
        s.says("Moves an element, with everything below it, to a parent, which can be the same as before.");
        tree("moves(1, 3, 0)", x -> x.moves(1, 3, 0), 2, "a(b(b(c)a(b2)c)c3)");
        tree("moves(3, 2, 0)", x -> x.moves(3, 2, 0), 3, "a(b(c(b(a(b2)c)))c3)");
        tree("moves(3, 0, 0), the same parent", x -> x.moves(3, 0, 0), 1, "a(b(a(b2)c)b(c)c3)");
        tree("moves(3, 0, 1), where it is", x -> x.moves(3, 0, 1), 3, "a(b(c)b(a(b2)c)c3)");
        TwigMatches changed = new TwigMatches();
        tree("adds before a move", changed, y -> y.adds(0, 0, 1, 1), 1, "a(b1)");
        tree("adds before a move", changed, y -> y.adds(0, 1, 2, 2), 2, "a(b1c2)");
        tree("moves after adds", changed, y -> y.moves(2, 1, 0), 2, "a(b1(c2))");
        tree("moves after moves", changed, y -> y.moves(2, 0, 0), 1, "a(c2b1)");
        tree("moves after moves", changed, y -> y.moves(1, 2, 0), 2, "a(b1(c2))");
        tree("sets after moves", changed, y -> y.sets(1, 3, 3), 11, "a(d3(c2))");
        tree("moves after sets", changed, y -> y.moves(2, 0, 1), 2, "a(d3c2)");
        tree("drops after moves", changed, y -> y.drops(1), 1, "a(c2)");
        s.with(Setups::star);
        s.answers("moves among 32 elements", y -> y.moves(31, 1, 0), 2);
        s.says("the element");
        s.with(Setups::usual);
        for (int e : NO_ELEMENT) {
            s.refuses("moves(" + e + ", 0, 0)", x -> x.moves(e, 0, 0), BAD);
        }
        s.says("the parent; both numbers are those before the move");
        tree("moves(1, 7, 0)", x -> x.moves(1, 7, 0), 6, "a(b(a(b2)c)c3(b(c)))");
        tree("moves(1, 3, 2)", x -> x.moves(1, 3, 2), 5, "a(b(a(b2)cb(c))c3)");
        s.with(Setups::usual);
        for (int to : NO_ELEMENT) {
            s.refuses("moves(1, " + to + ", 0)", x -> x.moves(1, to, 0), BAD);
        }
    }

    private void movesAt() {
        s.says("the index of the child of the parent, e itself not counted, before which it is inserted, "
                + "from 0; the number of these children to insert it after all");
        // The root has three children; if one of them is moved, two are counted.
        tree("moves(1, 0, 0)", x -> x.moves(1, 0, 0), 1, "a(b(c)b(a(b2)c)c3)");
        tree("moves(1, 0, 1)", x -> x.moves(1, 0, 1), 5, "a(b(a(b2)c)b(c)c3)");
        tree("moves(1, 0, 2)", x -> x.moves(1, 0, 2), 6, "a(b(a(b2)c)c3b(c))");
        tree("moves(7, 0, 0)", x -> x.moves(7, 0, 0), 1, "a(c3b(c)b(a(b2)c))");
        tree("moves(7, 0, 1)", x -> x.moves(7, 0, 1), 3, "a(b(c)c3b(a(b2)c))");
        tree("moves(7, 0, 2)", x -> x.moves(7, 0, 2), 7, "a(b(c)b(a(b2)c)c3)");
        tree("moves(5, 0, 0)", x -> x.moves(5, 0, 0), 1, "a(b2b(c)b(ac)c3)");
        tree("moves(5, 0, 3)", x -> x.moves(5, 0, 3), 7, "a(b(c)b(ac)c3b2)");
        s.with(Setups::usual);
        for (int at : new int[] {-1, 3, MIN, MAX}) {
            s.refuses("moves(1, 0, " + at + ") within its parent", x -> x.moves(1, 0, at), BAD);
            s.refuses("moves(7, 0, " + at + ") within its parent", x -> x.moves(7, 0, at), BAD);
        }
        for (int at : new int[] {-1, 4, MIN, MAX}) {
            s.refuses("moves(5, 0, " + at + ") to another parent", x -> x.moves(5, 0, at), BAD);
        }
        s.refuses("moves(5, 4, 1), an only child", x -> x.moves(5, 4, 1), BAD);
        s.answers("moves(5, 4, 0), an only child", x -> x.moves(5, 4, 0), 5);
        s.says("Returns the number of the element then;");
        s.with(Setups::usual);
        s.answers("moves(6, 0, 3)", x -> x.moves(6, 0, 3), 7);
        s.answers("moves(6, 1, 0)", x -> x.moves(6, 1, 0), 2);
        s.answers("moves(4, 2, 0)", x -> x.moves(4, 2, 0), 3);
    }

    private void movesRefused() {
        s.says("BAD if an argument is not as described;");
        s.refuses("moves(1, 0, 0) in the first tree", x -> x.moves(1, 0, 0), BAD);
        s.refuses("moves(0, 0, 1) in the first tree", x -> x.moves(0, 0, 1), BAD);
        s.with(Setups::usual);
        s.refuses("moves(0, 0, 4)", x -> x.moves(0, 0, 4), BAD);
        s.refuses("moves(-1, -1, -1)", x -> x.moves(-1, -1, -1), BAD);
        s.says("NO if e is the root,");
        s.with(TwigMatches::new);
        s.refuses("moves(0, 0, 0) in the first tree", x -> x.moves(0, 0, 0), NO);
        s.with(Setups::usual);
        s.refuses("moves(0, 0, 3)", x -> x.moves(0, 0, 3), NO);
        s.refuses("moves(0, 7, 0)", x -> x.moves(0, 7, 0), NO);
        s.says("to is e or below it,");
        s.with(Setups::usual);
        s.refuses("moves(3, 3, 0)", x -> x.moves(3, 3, 0), NO);
        s.refuses("moves(3, 3, 2)", x -> x.moves(3, 3, 2), NO);
        s.refuses("moves(3, 4, 0)", x -> x.moves(3, 4, 0), NO);
        s.refuses("moves(3, 5, 0)", x -> x.moves(3, 5, 0), NO);
        s.refuses("moves(3, 6, 0), the last one below it", x -> x.moves(3, 6, 0), NO);
        s.answers("moves(3, 7, 0), the one behind that", x -> x.moves(3, 7, 0), 4);
        s.answers("moves(3, 2, 0), the one before it", x -> x.moves(3, 2, 0), 3);
    }

    private void movesTooDeep() {
        s.says("or a level would be above 10.");
        // Nine levels below the root, and beside them a branch of three levels.
        s.with(() -> Checks.made("a(b(a(b(a(b(a(b(a(b))))))))c(d(e)))"));
        s.answers("moves of three levels below level 7", x -> x.moves(10, 6, 0), 7);
        s.refuses("moves of three levels below level 8", x -> x.moves(10, 7, 0), NO);
        s.refuses("moves of three levels below level 10", x -> x.moves(10, 9, 0), NO);
        s.answers("moves of two levels below level 8", x -> x.moves(11, 7, 0), 8);
        s.refuses("moves of two levels below level 9", x -> x.moves(11, 8, 0), NO);
        s.answers("moves of a leaf below level 9", x -> x.moves(12, 8, 0), 9);
        s.refuses("moves of a leaf below level 10", x -> x.moves(12, 9, 0), NO);
        s.answers("moves up of what reaches level 10", x -> x.moves(2, 0, 0), 1);
        s.with(Setups::chain);
        s.answers("moves at level 10, where it is", x -> x.moves(9, 8, 0), 9);
        s.with(() -> Checks.made("a(cb(a(b(a(b(a(b(a(b)))))))))"));
        s.refuses("moves of nine levels below level 2", x -> x.moves(2, 1, 0), NO);
        s.answers("moves of eight levels below level 2", x -> x.moves(3, 1, 0), 2);
    }

    private void element() {
        s.says("Returns a property of an element.");
        int[][] want = {
            {0, 0, NONE, 1, 16, 1, 3, 7}, {1, 0, 0, 2, 5, 2, 1, 1}, {2, 0, 1, 3, 4, 3, 0, 0},
            {1, 0, 0, 6, 13, 2, 2, 3}, {0, 0, 3, 7, 10, 3, 1, 1}, {1, 2, 4, 8, 9, 4, 0, 0},
            {2, 0, 3, 11, 12, 3, 0, 0}, {2, 3, 0, 14, 15, 2, 0, 0}};
        s.with(Setups::usual);
        for (int k = 0; k < 64; k++) {
            int e = k / 8;
            int what = k % 8;
            s.answers("element(" + e + ", " + what + ")", x -> x.element(e, what), want[e][what]);
        }
        s.says("the element");
        s.with(Setups::usual);
        for (int e : NO_ELEMENT) {
            s.refuses("element(" + e + ", 0)", x -> x.element(e, 0), BAD);
        }
        s.says("0 its tag, 1 its value, 2 its parent (NONE for the root), 3 its start, 4 its end, 5 its "
                + "level, 6 the number of its children, 7 the number of elements below it");
        s.answers("parent of the only element", x -> x.element(0, 2), NONE);
        s.answers("start of the only element", x -> x.element(0, 3), 1);
        s.answers("end of the only element", x -> x.element(0, 4), 2);
        s.answers("children of the only element", x -> x.element(0, 6), 0);
        s.answers("elements below the only element", x -> x.element(0, 7), 0);
        s.with(Setups::star);
        s.answers("children of the root of a star", x -> x.element(0, 6), 31);
        s.answers("elements below the root of a star", x -> x.element(0, 7), 31);
        s.answers("parent of element 31", x -> x.element(31, 2), 0);
        s.with(Setups::chain);
        s.answers("children in a chain", x -> x.element(0, 6), 1);
        s.answers("elements below in a chain", x -> x.element(0, 7), 9);
        s.answers("level at the end of a chain", x -> x.element(9, 5), 10);
        s.says("Returns the property;");
        s.with(() -> Checks.made("f9"));
        s.answers("tag of f9", x -> x.element(0, 0), 5);
        s.answers("value of f9", x -> x.element(0, 1), 9);
        s.says("BAD if there is no such element or what is out of range.");
        s.refuses("element(1, 0) of the first tree", x -> x.element(1, 0), BAD);
        s.with(Setups::usual);
        for (int what : new int[] {-1, 8, MIN, MAX}) {
            s.refuses("element(0, " + what + ")", x -> x.element(0, what), BAD);
            s.refuses("element(8, " + what + ")", x -> x.element(8, what), BAD);
        }
    }

    private void size() {
        s.says("Returns the number of elements.");
        s.answers("size of the first tree", x -> x.size(), 1);
        s.with(Setups::star);
        s.answers("size of a full tree", x -> x.size(), 32);
        s.refuses("adds to a full tree", x -> x.adds(0, 0, 0, 0), FULL);
        s.says("Returns the number.");
        TwigMatches x = new TwigMatches();
        for (int n = 2; n <= 32; n++) {
            x.adds(0, 0, 0, 0);
            s.due("size after adds", x.size(), n);
        }
        x.adds(0, 0, 0, 0);
        s.due("size after a refused call", x.size(), 32);
        for (int n = 31; n >= 1; n--) {
            x.drops(n);
            s.due("size after drops", x.size(), n);
        }
        x.drops(0);
        s.due("size after a refused drops", x.size(), 1);
    }
}
