/** The section "Description" up to the twigs: ERRORS, THE TREE, TWIGS; and the number of calls. */
final class DescriptionSentences {
    private static final int NONE = TwigMatches.NONE, BAD = TwigMatches.BAD;
    private static final int NO = TwigMatches.NO, FULL = TwigMatches.FULL;
    private static final int MIN = Integer.MIN_VALUE;
    private final Sentences s;

    DescriptionSentences(Sentences s) {
        this.s = s;
    }

    void all() {
        s.section("What it is");
        manyCalls();
        s.section("Description");
        summary();
        errorCodes();
        firstErrorOfTheTree();
        firstErrorOfTheRest();
        errorCounts();
        none();
        sets();
        elements();
        levels();
        positions();
        twigs();
        testsOfNodes();
        edgesOfNodes();
        fitting();
        edgesOfMatches();
        order();
        ranks();
        paths();
        mappings();
        mappingEdges();
    }

    private void manyCalls() {
        s.says("An object is used for at most 512 calls after it has been made");
        TwigMatches x = Checks.made("a(b(c)b(a(b2)c)c3)", "a(~b~c)");
        // 29 calls made it; the last of these is a type(), so that all elements added are gone again.
        for (int k = 29; k < 511; k++) {
            switch (k % 6) {
                case 0: x.type('a'); break;
                case 1: x.adds(0, 0, 1, 1); break;
                case 2: x.drops(1); break;
                case 3: x.sets(0, 0, 0); break;
                case 4: x.matches(3); break;
                default: x.less(0, 1); break;
            }
        }
        s.due("the 512th call, matches(0)", x.matches(0), 9);
    }

    private void summary() {
        s.says("The class keeps a tree and up to four twig patterns with child and descendant edges and "
                + "ordered branches, which are read from texts. It counts matches, finds the match with a "
                + "given rank and the rank of a given match, tells which elements and paths occur in "
                + "matches, and decides whether one twig can be mapped into another one and whether a "
                + "branch is redundant. Changes can be undone.");
        s.with(Setups::usual);
        s.answers("matches(0)", x -> x.matches(0), 9);
        s.answers("match(0, 3, 1)", x -> x.match(0, 3, 1), 3);
        s.answers("place(0, 98)", x -> x.place(0, 98), 3);
        s.answers("found(1, 1)", x -> x.found(1, 1), Checks.set(1, 3, 5));
        s.answers("folds(2, 0)", x -> x.folds(2, 0), 1);
        s.answers("spare(0, 2)", x -> x.spare(0, 2), 0);
        s.answers("back()", x -> x.back(), 3);
        s.says("The constructor and the methods follow, a promise each: the signature, then what it does.");
        int face = TwigMatches.class.getConstructors().length;
        for (java.lang.reflect.Method method : TwigMatches.class.getDeclaredMethods()) {
            face += java.lang.reflect.Modifier.isPublic(method.getModifiers()) ? 1 : 0;
        }
        s.due("the constructor and the methods", face, 29);
    }

    private void errorCodes() {
        s.says("The error codes are BAD (-2), an argument is out of range or names something that does "
                + "not exist;");
        s.due("BAD", BAD, -2);
        s.with(Setups::usual);
        s.refuses("sets(0, 6, 0)", x -> x.sets(0, 6, 0), -2);
        s.refuses("sets(8, 0, 0)", x -> x.sets(8, 0, 0), -2);
        s.says("NO (-3), the call is not possible now, as the method says;");
        s.due("NO", NO, -3);
        s.with(Setups::usual);
        s.refuses("drops(0)", x -> x.drops(0), -3);
        s.says("FULL (-4), a maximum would be exceeded.");
        s.due("FULL", FULL, -4);
        s.with(Setups::star);
        s.refuses("adds(0, 0, 0, 0) with 32 elements", x -> x.adds(0, 0, 0, 0), -4);
        s.with(Setups::longText);
        s.refuses("type(97) with 120 bytes", x -> x.type(97), -4);
    }

    private void firstErrorOfTheTree() {
        s.says("If several of them apply to one call, the first one in this list is returned.");
        s.with(Setups::broom);
        s.refuses("adds: no tag, too deep, full", x -> x.adds(9, 0, 6, 0), BAD);
        s.refuses("adds: no value, full", x -> x.adds(0, 0, 0, 10), BAD);
        s.refuses("adds: no index, full", x -> x.adds(0, 24, 0, 0), BAD);
        s.refuses("adds: no element, full", x -> x.adds(32, 0, 0, 0), BAD);
        s.refuses("adds: too deep, full", x -> x.adds(9, 0, 0, 0), NO);
        s.refuses("moves: no index, root", x -> x.moves(0, 0, 24), BAD);
        s.refuses("moves: no parent, root", x -> x.moves(0, 32, 0), BAD);
        s.refuses("moves: no index, into itself", x -> x.moves(1, 1, 2), BAD);
        s.refuses("moves: no index, below itself", x -> x.moves(1, 9, 1), BAD);
        s.refuses("moves: no index, too deep", x -> x.moves(10, 9, -1), BAD);
        s.with(Setups::chain);
        s.refuses("adds: no index, too deep", x -> x.adds(9, 1, 0, 0), BAD);
        s.refuses("adds: no value, too deep", x -> x.adds(9, 0, 0, -1), BAD);
    }

    /** The same sentence goes on. */
    private void firstErrorOfTheRest() {
        s.with(Setups::usual);
        s.refuses("node: no property, no twig", x -> x.node(3, 0, 5), BAD);
        s.refuses("node: negative node, no twig", x -> x.node(3, -1, 0), BAD);
        s.refuses("node: no property, no node", x -> x.node(0, 3, -1), BAD);
        s.refuses("folds: no twig, no number", x -> x.folds(3, 4), BAD);
        s.refuses("folds: no number, ordered", x -> x.folds(-1, 1), BAD);
        s.refuses("spare: node 0, ordered", x -> x.spare(1, 0), BAD);
        s.refuses("spare: node 0, no twig", x -> x.spare(3, 0), BAD);
        s.refuses("match: negative number, no twig", x -> x.match(3, -1, 0), BAD);
        s.refuses("match: negative number, no node", x -> x.match(0, -1, 3), BAD);
        s.refuses("match: negative node, no twig", x -> x.match(3, 0, -1), BAD);
        s.refuses("place: negative number, no twig", x -> x.place(3, -1), BAD);
        s.refuses("fits: negative node, no twig", x -> x.fits(3, -1), BAD, 0);
        s.refuses("found: negative node, no twig", x -> x.found(3, -1), BAD, 0);
        s.refuses("part: no element, no twig", x -> x.part(3, 0, 8), BAD);
        s.refuses("part: no element, no node", x -> x.part(0, 3, -1), BAD);
        s.refuses("part: negative node, no twig", x -> x.part(3, -1, 0), BAD);
        s.refuses("ways: no kind, no twig", x -> x.ways(3, 0, 2), BAD);
        s.refuses("ways: no kind, no node", x -> x.ways(0, 3, -1), BAD);
        s.refuses("ways: negative node, no twig", x -> x.ways(3, -1, 0), BAD);
        s.refuses("less: no element, no twig", x -> x.less(3, 8), BAD);
        s.refuses("less: no number, root", x -> x.less(4, 0), BAD);
        s.refuses("shown: negative index, no twig", x -> x.shown(3, -1), BAD);
        s.with(Setups::longText);
        s.refuses("type: no byte, full", x -> x.type(128), BAD);
        s.refuses("type: negative byte, full", x -> x.type(-1), BAD);
    }

    private void errorCounts() {
        s.says("It is counted how often each of them was returned;");
        TwigMatches x = Setups.star();
        for (int k = 1; k <= 5; k++) {
            x.adds(0, 0, 0, 0);
            x.adds(32, 0, 0, 0);
            x.drops(0);
            s.due("told(0) after " + k, x.told(0), k);
            s.due("told(1) after " + k, x.told(1), k);
            s.due("told(2) after " + k, x.told(2), k);
        }
        s.says("a call that returns one of them changes nothing else.");
        s.with(Setups::eightKept);
        s.refuses("adds at no index", y -> y.adds(0, 1, 0, 0), BAD);
        s.refuses("drops of the root", y -> y.drops(0), NO);
        s.refuses("forgets of no twig", y -> y.forgets(0), NO);
        s.refuses("twigs at no number", y -> y.twigs(4), BAD);
        s.refuses("told of no count", y -> y.told(7), BAD);
        s.with(Setups::broom);
        s.refuses("adds of a 33rd element", y -> y.adds(0, 0, 0, 0), FULL);
        s.refuses("moves of an element too deep", y -> y.moves(10, 9, 0), NO);
        s.with(TwigMatches::new);
        s.refuses("back without a state", y -> y.back(), NO);
    }

    private void none() {
        s.says("NONE (-1) means that there is no such value; it is returned only if no error code applies.");
        s.due("NONE", NONE, -1);
        s.with(Setups::usual);
        s.answers("element(0, 2)", x -> x.element(0, 2), NONE);
        s.refuses("element(-1, 2)", x -> x.element(-1, 2), BAD);
        s.answers("node(0, 0, 4)", x -> x.node(0, 0, 4), NONE);
        s.refuses("node(3, 0, 4)", x -> x.node(3, 0, 4), NO);
        s.answers("match(0, 9, 0)", x -> x.match(0, 9, 0), NONE);
        s.refuses("match(0, 9, 3)", x -> x.match(0, 9, 3), NO);
        s.refuses("match(0, 9, -1)", x -> x.match(0, 9, -1), BAD);
        s.answers("place(0, 0)", x -> x.place(0, 0), NONE);
        s.refuses("place(3, 0)", x -> x.place(3, 0), NO);
        s.answers("shown(-1, 18)", x -> x.shown(-1, 18), NONE);
        s.refuses("shown(3, 18)", x -> x.shown(3, 18), NO);
        s.refuses("shown(4, 18)", x -> x.shown(4, 18), BAD);
    }

    private void sets() {
        s.says("Sets are bit masks, in which bit k stands for number k.");
        s.with(() -> Checks.made(Setups.STAR, "a", "b", "*"));
        s.answers("fits: element 0", x -> x.fits(0, 0), 1);
        s.answers("fits: elements 1 to 31", x -> x.fits(1, 0), -2);
        s.answers("found: all 32 elements", x -> x.found(2, 0), -1);
        s.answers("told(4): twigs 0 to 2", x -> x.told(4), 7);
        s.with(() -> {
            TwigMatches x = Checks.made(Setups.STAR, "c", "*=9");
            x.sets(31, 2, 9);
            return x;
        });
        s.answers("fits: element 31", x -> x.fits(0, 0), MIN);
        s.answers("found: element 31", x -> x.found(0, 0), MIN);
        s.answers("node: value 9", x -> x.node(1, 0, 1), 512);
    }

    // ---- the tree

    private void elements() {
        s.says("The tree has at most 32 elements.");
        s.with(() -> Checks.made(Setups.STAR.replaceFirst("b", "")));
        s.answers("adds a 32nd element", x -> x.adds(0, 30, 1, 0), 31);
        s.with(Setups::star);
        s.refuses("adds a 33rd element", x -> x.adds(0, 31, 1, 0), FULL);
        s.answers("builds with 32 elements", x -> Checks.build(x, Setups.STAR), 32);
        s.answers("builds with 33 elements", x -> Checks.build(x, Setups.STAR.replaceFirst("b", "bb")), -43);
        s.says("They are numbered from 0 in document order: element 0 is the root; an element is followed "
                + "by its first child with everything below it, then by its second child with everything "
                + "below it, and so on.");
        TwigMatches x = Checks.made("a(b(cd(e))f(ab)c)");
        for (int e = 0; e < 9; e++) {
            s.due("tag of element " + e, x.element(e, 0), "abcdefabc".charAt(e) - 'a');
            s.due("parent of element " + e, x.element(e, 2), new int[] {NONE, 0, 1, 1, 3, 0, 5, 5, 0}[e]);
        }
        s.due("element -1", x.element(-1, 0), BAD);
        s.due("element 9", x.element(9, 0), BAD);
        s.says("An element has a tag (a to f, numbered 0 to 5) and a value (0 to 9).");
        for (int k = 0; k < 10; k++) {
            int tag = k % 6;
            int value = k;
            TwigMatches y = Checks.made("" + (char) ('a' + tag) + value);
            s.due("tag " + tag, y.element(0, 0), tag);
            s.due("value " + value, y.element(0, 1), value);
            s.answers("sets(0, " + tag + ", " + value + ")", z -> z.sets(0, tag, value), 0);
        }
        s.refuses("tag 6", y -> y.sets(0, 6, 0), BAD);
        s.refuses("tag -1", y -> y.sets(0, -1, 0), BAD);
        s.refuses("value 10", y -> y.sets(0, 0, 10), BAD);
        s.refuses("value -1", y -> y.sets(0, 0, -1), BAD);
    }

    private void levels() {
        s.says("The level of the root is 1, that of a child is greater by 1 than that of its parent; no "
                + "level is above 10.");
        TwigMatches x = new TwigMatches();
        s.due("level of the root", x.element(0, 5), 1);
        for (int e = 0; e < 9; e++) {
            s.due("adds below " + e, x.adds(e, 0, 0, 0), e + 1);
            s.due("level of " + (e + 1), x.element(e + 1, 5), e + 2);
        }
        s.due("adds at level 11", x.adds(9, 0, 0, 0), NO);
        s.due("size", x.size(), 10);
        s.with(() -> Checks.made(Setups.CHAIN.replaceFirst("\\)$", "c)")));
        s.answers("moves to level 10", y -> y.moves(10, 8, 1), 10);
        s.refuses("moves to level 11", y -> y.moves(10, 9, 0), NO);
        s.answers("builds with level 10", y -> Checks.build(y, Setups.CHAIN), 10);
        s.answers("builds with level 11", y -> Checks.build(y, "a(" + Setups.CHAIN + ")"), -30);
    }

    private void positions() {
        s.says("Each element begins before everything below it and ends after it; the start and the end of "
                + "an element are the positions of its beginning and its end when all beginnings and ends "
                + "are counted together, from 1, in document order.");
        places("a", 1, 2);
        places("a(b)", 1, 4, 2, 3);
        places("a(b(cd(e))f)", 1, 12, 2, 9, 3, 4, 5, 8, 6, 7, 10, 11);
        TwigMatches x = Checks.made(Setups.LONGEST);
        s.due("start of the root of 32", x.element(0, 3), 1);
        s.due("end of the root of 32", x.element(0, 4), 64);
        s.due("start at level 10", x.element(9, 3), 10);
        s.due("end at level 10", x.element(9, 4), 11);
        s.due("start of the last of 32", x.element(31, 3), 59);
        s.due("end of the last of 32", x.element(31, 4), 60);
        s.says("At first the tree consists of a root with tag a and value 0.");
        s.answers("size()", y -> y.size(), 1);
        s.answers("tag", y -> y.element(0, 0), 0);
        s.answers("value", y -> y.element(0, 1), 0);
        s.refuses("element(1, 0)", y -> y.element(1, 0), BAD);
    }

    private void places(String tree, int... want) {
        TwigMatches x = Checks.made(tree);
        for (int e = 0; e < want.length / 2; e++) {
            s.due("start of " + e + " in " + tree, x.element(e, 3), want[2 * e]);
            s.due("end of " + e + " in " + tree, x.element(e, 4), want[2 * e + 1]);
        }
    }

    // ---- twigs

    private void twigs() {
        s.says("There are four twigs, 0 to 3; at first none of them exists.");
        for (int k = 0; k < 4; k++) {
            int i = k;
            s.answers("nodes(" + i + ")", x -> x.nodes(i), 0);
            s.refuses("matches(" + i + ")", x -> x.matches(i), NO);
            s.refuses("shown(" + i + ", 0)", x -> x.shown(i, 0), NO);
            s.answers("twigs(" + i + ")", x -> Checks.twig(x, i, "a"), 1);
        }
        s.answers("told(4)", x -> x.told(4), 0);
        s.refuses("nodes(-1)", x -> x.nodes(-1), BAD);
        s.refuses("nodes(4)", x -> x.nodes(4), BAD);
        s.with(() -> Checks.made("a", "a", "b", "c", "d"));
        s.answers("told(4) with all four", x -> x.told(4), 15);
        s.says("A twig is a tree of at most 6 nodes, which are numbered from 0 in the same way as elements; "
                + "the children of a node are called its branches.");
        s.answers("6 nodes", x -> Checks.twig(x, 0, "*(/*/*/*/*/*)"), 6);
        s.answers("7 nodes", x -> Checks.twig(x, 0, "*(/*/*/*/*/*/*)"), -23);
        s.answers("6 nodes, deep", x -> Checks.twig(x, 0, "*(/*(/*(/*(/*(/*)))))"), 6);
        s.answers("7 nodes, deep", x -> Checks.twig(x, 0, "*(/*(/*(/*(/*(/*(/*))))))"), -28);
        TwigMatches x = Checks.made("a", "a(/b(/c)/d(/e/f))");
        for (int q = 0; q < 6; q++) {
            s.due("tag of node " + q, x.node(0, q, 0), q);
            s.due("node above " + q, x.node(0, q, 4), new int[] {NONE, 0, 1, 0, 3, 3}[q]);
        }
    }

    private void testsOfNodes() {
        s.says("A node has a tag or *, and a test: none (all values pass), or =, < or > and a digit (the "
                + "values that are equal to, less than, or greater than it pass).");
        String tree = "a(b1b2b3b4b5b6b7b8b9)";
        TwigMatches all = Checks.made(tree, "*", "b");
        s.due("tag of *", all.node(0, 0, 0), 6);
        s.due("tag of b", all.node(1, 0, 0), 1);
        s.due("values of no test", all.node(0, 0, 1), 1023);
        s.due("elements of no test", all.fits(0, 0), 1023);
        for (int digit = 0; digit < 10; digit++) {
            int equal = 0;
            int less = 0;
            int greater = 0;
            for (int value = 0; value < 10; value++) {
                equal |= value == digit ? 1 << value : 0;
                less |= value < digit ? 1 << value : 0;
                greater |= value > digit ? 1 << value : 0;
            }
            // Each element of the tree has its own number as its value.
            TwigMatches x = Checks.made(tree, "*=" + digit, "*<" + digit, "*>" + digit);
            int[] want = {equal, less, greater};
            for (int i = 0; i < 3; i++) {
                s.due("values of " + "=<>".charAt(i) + digit, x.node(i, 0, 1), want[i]);
                s.due("elements of " + "=<>".charAt(i) + digit, x.fits(i, 0), want[i]);
                s.due("matches of " + "=<>".charAt(i) + digit, x.matches(i), Integer.bitCount(want[i]));
            }
        }
    }

    private void edgesOfNodes() {
        s.says("Each node but node 0 has an edge to the node whose branch it is, either / (child) or ~ "
                + "(descendant), and it can be ordered.");
        TwigMatches x = Checks.made("a", "a(/b~c;/d;~e)");
        for (int q = 0; q < 5; q++) {
            s.due("edge of " + q, x.node(0, q, 2), new int[] {0, 1, 2, 1, 2}[q]);
            s.due("order of " + q, x.node(0, q, 3), new int[] {0, 0, 0, 1, 1}[q]);
        }
    }

    private void fitting() {
        s.says("An element fits a node if its tag is that of the node, or the node has *, and its value "
                + "passes the test.");
        s.with(() -> Checks.made("a1(b1a2b2)", "a", "*=2", "b=2", "c"));
        s.answers("fits of a", x -> x.fits(0, 0), Checks.set(0, 2));
        s.answers("fits of *=2", x -> x.fits(1, 0), Checks.set(2, 3));
        s.answers("fits of b=2", x -> x.fits(2, 0), Checks.set(3));
        s.answers("fits of c", x -> x.fits(3, 0), 0);
    }

    private void count(String tree, String twig, long want) {
        s.with(() -> Checks.made(tree, twig));
        s.answers("matches of " + twig + " in " + tree, x -> x.matches(0), want);
    }

    private void edgesOfMatches() {
        s.says("A match of a twig assigns to each node an element that fits it, such that for each node but "
                + "node 0: if its edge is /, its element is a child of the element of the node whose "
                + "branch it is;");
        count("a(b)", "a(/c)", 0);
        count("a(a(a))", "a(/a)", 2);
        count("a(a(a))", "a(/a(/a))", 1);
        count("a", "a(/a)", 0);
        // The branches of a branch do not hang on node 0.
        count("a(bc)", "a(/b(/c))", 0);
        s.says("if its edge is ~, its element is anywhere below that;");
        count("a(a(a))", "a(~a)", 3);
        count("a(aa)", "a(~a)", 2);
        count("a", "a(~a)", 0);
        count(Setups.CHAIN, "*(~*)", 45);
        // As many as there are ways to take 6 of 10 levels.
        count(Setups.CHAIN, "*(~*(~*(~*(~*(~*)))))", 210);
    }

    private void order() {
        s.says("and if it is ordered, its element starts after the end of the element of the branch before it.");
        count("a(bb)", "a(/b;/b)", 1);
        count("a(b)", "a(/b;/b)", 0);
        count("a(cb)", "a(/b;/c)", 0);
        count("a(bc)", "a(/b;/c)", 1);
        // An element that is below the one before it, or above it, does not start after its end.
        count("a(b(c))", "a(~b;~c)", 0);
        count("a(b(c))", "a(~c;~b)", 0);
        count("a(b(c)c)", "a(~b;~c)", 1);
        count("a(b(c)c)", "a(~c;~c)", 1);
        // Only the branch before it matters, not the one before that, and not what is below.
        count("a(bcb)", "a(/b/c;/b)", 2);
        count("a(b(d)cd)", "a(/b(/d);/c)", 1);
        count("a(bbb)", "a(/b;/b/b)", 9);
        s.says("Different nodes can have the same element.");
        count("a(b)", "a(/b/b)", 1);
        count("a(b)", "a(/b/b/b/b/b)", 1);
        count("a(b(c))", "a(/b(/c)~c~*)", 2);
    }

    private void ranks() {
        s.says("The matches of a twig are numbered from 0 in lexicographic order of the elements of node 0, "
                + "node 1, and so on.");
        ranked("a(a(bc)b(c)a(b))", "*(~b~*)");
        ranked("a(a(bc)b(c)a(b))", "*(/*(~*)~*)");
        ranked("a(a(bc)b(c)a(b))", "*(~*;~*)");
        ranked("a(b(bb)b(b))", "*(~b(/b);~*)");
    }

    /** The matches from number 0 on ascend, and there are as many as are counted. */
    private void ranked(String tree, String twig) {
        TwigMatches x = Checks.made(tree, twig);
        long all = x.matches(0);
        long before = -1;
        s.due("some matches of " + twig, all > 3 && all < 60 ? 1 : 0, 1);
        for (int j = 0; j < all; j++) {
            long told = 0;
            for (int q = 0; q < x.nodes(0); q++) {
                told = 32 * told + x.match(0, j, q);
            }
            s.due("match " + j + " of " + twig + " comes after the one before", told > before ? 1 : 0, 1);
            s.due("place of match " + j + " of " + twig, x.place(0, told), j);
            before = told;
        }
        s.due("a match more of " + twig, x.match(0, all, 0), NONE);
    }

    private void ways(String tree, String twig, int q, long all, long used) {
        s.with(() -> Checks.made(tree, twig));
        s.answers("ways to " + q + " of " + twig + " in " + tree, x -> x.ways(0, q, 0), all);
        s.answers("used ways to " + q + " of " + twig + " in " + tree, x -> x.ways(0, q, 1), used);
    }

    private void paths() {
        s.says("The path of a node consists of the nodes from node 0 down to it.");
        ways("a(ba)", "a(/b)", 0, 2, 1);
        ways("a(bb)", "a(/b/c)", 1, 2, 0);
        ways("a(b(cc)b(c))", "a(/b(/c/c))", 3, 3, 3);
        s.says("A path assignment of a node assigns an element to each node of its path, such that all of "
                + "them fit and the edges are respected; whether nodes are ordered does not matter.");
        ways("a(b1(c)b2(c)c)", "a(/b=1(/c))", 2, 1, 1);
        ways("a(b(c(c))c)", "a(/b(/c))", 2, 1, 1);
        ways("a(b(c(c))c)", "a(~b(~c))", 2, 2, 2);
        ways("a(cb)", "a(/b;/c)", 1, 1, 0);
        ways("a(cb)", "a(/b;/c)", 2, 1, 0);
        s.says("It is used if some match assigns the same elements to these nodes.");
        ways("a(bcbc)", "a(/c;/b)", 1, 2, 1);
        ways("a(bcbc)", "a(/c;/b)", 2, 2, 1);
        ways("a(b(c)b(d))", "a(/b(/c/d))", 1, 2, 0);
        ways("a(b(cd)b(d))", "a(/b(/c/d))", 3, 2, 1);
        // Two matches with the same path are one way.
        ways("a(bccc)", "a(/b/c)", 1, 1, 1);
    }

    private void folds(String x, String y, int want) {
        s.with(() -> Checks.made("a", x, y));
        s.answers("folds " + x + " into " + y, z -> z.folds(0, 1), want);
    }

    private void mappings() {
        s.says("A mapping of a twig x into a twig y assigns to each node of x a node of y, such that: the "
                + "node of x has *, or both have the same tag;");
        folds("a", "a", 1);
        folds("a", "b", 0);
        folds("*", "a", 1);
        folds("a", "*", 0);
        folds("*", "*", 1);
        folds("a(/b)", "a(/*)", 0);
        s.says("each value that passes the test of the node of y passes that of the node of x;");
        String[] tests = new String[31];
        int[] values = new int[31];
        tests[30] = "";
        values[30] = 1023;
        for (int digit = 0; digit < 10; digit++) {
            tests[digit] = "=" + digit;
            values[digit] = 1 << digit;
            tests[10 + digit] = "<" + digit;
            values[10 + digit] = (1 << digit) - 1;
            tests[20 + digit] = ">" + digit;
            values[20 + digit] = 1023 - ((2 << digit) - 1);
        }
        for (int j = 0; j < 31; j++) {
            for (int k = 0; k < 31; k++) {
                TwigMatches x = Checks.made("a", "a" + tests[j], "a" + tests[k]);
                s.due("folds a" + tests[j] + " into a" + tests[k], x.folds(0, 1),
                        (values[j] | values[k]) == values[j] ? 1 : 0);
            }
        }
    }

    private void mappingEdges() {
        s.says("and for each node c of x that is a branch of d: if the edge of c is /, the node assigned to "
                + "c is a branch, with the edge /, of the node assigned to d;");
        folds("a(/b)", "a(/b)", 1);
        folds("a(/b)", "a(~b)", 0);
        folds("a(/c)", "a(/b(/c))", 0);
        folds("a(/a)", "a", 0);
        folds("b(/c)", "a(~b(/c))", 1);
        folds("a(/b/b)", "a(/b)", 1);
        s.says("if it is ~, the node assigned to c is anywhere below the node assigned to d.");
        folds("a(~b)", "a(~b)", 1);
        folds("a(~b)", "a(/b)", 1);
        folds("a(~c)", "a(/b(~c))", 1);
        folds("a(~a)", "a", 0);
        folds("b(~c)", "a(/b/c)", 0);
        folds("*(~*(~*(~*(~*(~*)))))", "a(/b(~c(/d(~e(/f)))))", 1);
        folds("*(~*(~*(~*(~*(~*)))))", "a(/b(~c(/d(~e/f))))", 0);
    }
}
