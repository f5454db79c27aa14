/** Promises 8 to 12, sentence by sentence: twigs, and mappings between them. */
final class TwigPromises {
    private static final int NONE = TwigMatches.NONE, BAD = TwigMatches.BAD, NO = TwigMatches.NO;
    private static final int MIN = Integer.MIN_VALUE, MAX = Integer.MAX_VALUE;
    /** Numbers that no twig can have. */
    private static final int[] NO_TWIG = {-1, 4, MIN, MAX};
    private final Sentences s;

    TwigPromises(Sentences s) {
        this.s = s;
    }

    void all() {
        s.promise(8);
        node();
        nodeRefused();
        s.promise(9);
        forgets();
        s.promise(10);
        nodes();
        s.promise(11);
        folds();
        s.promise(12);
        spare();
        spareRefused();
    }

    /** Twig 0 has six nodes. */
    private static TwigMatches six() {
        return Checks.made("a", "a=3(/b<4(~*)~*>9;/f>0;~c<0)");
    }

    private void node() {
        s.says("Returns a property of a node.");
        int[][] want = {
            {0, 8, 0, 0, NONE}, {1, 15, 1, 0, 0}, {6, 1023, 2, 0, 1},
            {6, 0, 2, 0, 0}, {5, 1022, 1, 1, 0}, {2, 0, 2, 1, 0}};
        s.with(TwigPromises::six);
        for (int k = 0; k < 30; k++) {
            int q = k / 5;
            int what = k % 5;
            s.answers("node(0, " + q + ", " + what + ")", x -> x.node(0, q, what), want[q][what]);
        }
        s.says("the twig, 0 to 3");
        s.with(TwigPromises::six);
        for (int i : NO_TWIG) {
            s.refuses("node(" + i + ", 0, 0)", x -> x.node(i, 0, 0), BAD);
        }
        s.with(() -> Checks.made("a", "a", "b", "c", "d"));
        s.answers("node(0, 0, 0)", x -> x.node(0, 0, 0), 0);
        s.answers("node(3, 0, 0)", x -> x.node(3, 0, 0), 3);
        s.says("the node, 0 or more");
        s.with(TwigPromises::six);
        s.refuses("node(0, -1, 0)", x -> x.node(0, -1, 0), BAD);
        s.refuses("node(0, MIN, 0)", x -> x.node(0, MIN, 0), BAD);
        s.answers("node(0, 5, 0)", x -> x.node(0, 5, 0), 2);
        s.says("0 its tag (6 for *), 1 the set of the values that pass its test, 2 its edge (0 for node 0, "
                + "1 for /, 2 for ~), 3 whether it is ordered (1 or 0), 4 the node whose branch it is "
                + "(NONE for node 0)");
        s.with(() -> Checks.made("a", "*", "*(/*(/*(/*;~*)))"));
        int[] only = {6, 1023, 0, 0, NONE};
        int[] last = {6, 1023, 2, 1, 2};
        for (int k = 0; k < 5; k++) {
            int what = k;
            s.answers("of the only node " + what, x -> x.node(0, 0, what), only[what]);
            s.answers("of the last node " + what, x -> x.node(1, 4, what), last[what]);
        }
    }

    private void nodeRefused() {
        s.says("Returns the property;");
        s.with(() -> Checks.made("a", "f>8"));
        s.answers("tag of f>8", x -> x.node(0, 0, 0), 5);
        s.answers("values of f>8", x -> x.node(0, 0, 1), 512);
        s.says("BAD if an argument is out of range;");
        s.with(TwigPromises::six);
        for (int what : new int[] {-1, 5, MIN, MAX}) {
            s.refuses("node(0, 0, " + what + ")", x -> x.node(0, 0, what), BAD);
            s.refuses("node(3, 0, " + what + ") of no twig", x -> x.node(3, 0, what), BAD);
            s.refuses("node(0, 6, " + what + ") of no node", x -> x.node(0, 6, what), BAD);
        }
        s.says("NO if the twig does not exist or has no such node.");
        s.with(TwigPromises::six);
        s.refuses("node(1, 0, 0)", x -> x.node(1, 0, 0), NO);
        s.refuses("node(3, 5, 4)", x -> x.node(3, 5, 4), NO);
        s.refuses("node(0, 6, 0)", x -> x.node(0, 6, 0), NO);
        s.refuses("node(0, 7, 0)", x -> x.node(0, 7, 0), NO);
        s.refuses("node(0, MAX, 0)", x -> x.node(0, MAX, 0), NO);
        s.with(Setups::usual);
        s.refuses("node(2, 1, 0)", x -> x.node(2, 1, 0), NO);
        s.refuses("node(0, 3, 0)", x -> x.node(0, 3, 0), NO);
    }

    private void forgets() {
        s.says("Removes a twig.");
        TwigMatches x = Setups.usual();
        s.due("forgets(1)", x.forgets(1), 3);
        s.due("then nodes(1)", x.nodes(1), 0);
        s.due("then told(4)", x.told(4), 5);
        s.due("then matches(1)", x.matches(1), NO);
        s.due("then the others", Checks.shown(x, 0) + " " + Checks.shown(x, 2), "a(~b~c) b");
        s.says("the twig, 0 to 3");
        s.with(() -> Checks.made("a", "a", "b", "c", "d"));
        s.answers("forgets(0)", y -> y.forgets(0), 1);
        s.answers("forgets(3)", y -> y.forgets(3), 1);
        s.says("Returns the number of nodes that it had;");
        s.with(TwigPromises::six);
        s.answers("forgets of six nodes", y -> y.forgets(0), 6);
        s.with(Setups::usual);
        s.answers("forgets of one node", y -> y.forgets(2), 1);
        s.says("BAD if i is out of range;");
        s.with(Setups::usual);
        for (int i : NO_TWIG) {
            s.refuses("forgets(" + i + ")", y -> y.forgets(i), BAD);
        }
        s.says("NO if it does not exist.");
        s.with(Setups::usual);
        s.refuses("forgets(3)", y -> y.forgets(3), NO);
        s.with(() -> {
            TwigMatches y = Setups.usual();
            y.forgets(0);
            return y;
        });
        s.refuses("forgets(0) again", y -> y.forgets(0), NO);
        s.with(() -> {
            TwigMatches y = Setups.usual();
            y.back();
            return y;
        });
        s.refuses("forgets(2) after back", y -> y.forgets(2), NO);
    }

    private void nodes() {
        s.says("Returns the number of nodes of a twig.");
        s.with(TwigPromises::six);
        s.answers("nodes of six", x -> x.nodes(0), 6);
        s.says("the twig, 0 to 3");
        s.with(() -> Checks.made("a", "a", "a(/b)", "a(/b/c)", "a(/b/c/d)"));
        for (int k = 0; k < 4; k++) {
            int i = k;
            s.answers("nodes(" + i + ")", x -> x.nodes(i), i + 1);
        }
        s.says("Returns the number, 0 if the twig does not exist;");
        for (int k = 0; k < 4; k++) {
            int i = k;
            s.answers("nodes(" + i + ") of a new object", x -> x.nodes(i), 0);
        }
        s.with(() -> {
            TwigMatches x = Setups.usual();
            x.forgets(0);
            return x;
        });
        s.answers("nodes(0) after forgets", x -> x.nodes(0), 0);
        s.says("BAD if i is out of range.");
        for (int i : NO_TWIG) {
            s.refuses("nodes(" + i + ")", x -> x.nodes(i), BAD);
        }
    }

    private void folds() {
        s.says("Tells whether there is a mapping of a twig into a twig.");
        s.with(() -> Checks.made("a", "a(~b)", "a(/b)", "a(/b/b)", "c"));
        s.answers("folds(0, 1)", x -> x.folds(0, 1), 1);
        s.answers("folds(1, 0)", x -> x.folds(1, 0), 0);
        s.answers("folds(2, 1)", x -> x.folds(2, 1), 1);
        s.says("the first twig, 0 to 3");
        s.with(Setups::usual);
        for (int i : NO_TWIG) {
            s.refuses("folds(" + i + ", 0)", x -> x.folds(i, 0), BAD);
        }
        s.says("the second twig, 0 to 3, possibly the same");
        s.with(Setups::usual);
        for (int i : NO_TWIG) {
            s.refuses("folds(0, " + i + ")", x -> x.folds(0, i), BAD);
        }
        s.answers("folds(0, 0)", x -> x.folds(0, 0), 1);
        s.answers("folds(2, 2)", x -> x.folds(2, 2), 1);
        s.says("Returns 1 or 0;");
        s.with(() -> Checks.made("a", "a", "b", "*", "a(/a)"));
        int[][] want = {{1, 0, 0, 1}, {0, 1, 0, 0}, {1, 1, 1, 1}, {0, 0, 0, 1}};
        for (int k = 0; k < 16; k++) {
            int i = k / 4;
            int j = k % 4;
            s.answers("folds(" + i + ", " + j + ")", x -> x.folds(i, j), want[i][j]);
        }
        s.says("BAD if an argument is out of range;");
        s.refuses("folds(0, 4) of a new object", x -> x.folds(0, 4), BAD);
        s.refuses("folds(-1, -1)", x -> x.folds(-1, -1), BAD);
        s.says("NO if one of them does not exist or has an ordered node.");
        s.refuses("folds(0, 0) of a new object", x -> x.folds(0, 0), NO);
        s.with(Setups::usual);
        s.refuses("folds(3, 0), no first one", x -> x.folds(3, 0), NO);
        s.refuses("folds(0, 3), no second one", x -> x.folds(0, 3), NO);
        s.refuses("folds(1, 0), the first one ordered", x -> x.folds(1, 0), NO);
        s.refuses("folds(0, 1), the second one ordered", x -> x.folds(0, 1), NO);
        s.refuses("folds(1, 1), itself ordered", x -> x.folds(1, 1), NO);
        s.with(() -> Checks.made("a", "*", "a(/b(/c(/d;/e)))"));
        s.refuses("folds(0, 1), the last node ordered", x -> x.folds(0, 1), NO);
    }

    private void spares(String twig, int... want) {
        s.with(() -> Checks.made("a", twig));
        for (int k = 1; k <= want.length; k++) {
            int q = k;
            s.answers("spare(0, " + q + ") of " + twig, x -> x.spare(0, q), want[q - 1]);
        }
    }

    private void spare() {
        s.says("Tells whether a branch of a twig is redundant: whether there is a mapping of the twig into "
                + "itself that assigns node 0 to node 0 and uses neither the given node nor any node below it.");
        spares("a(/b/b)", 1, 1);
        spares("a(/b~b)", 0, 1);
        spares("a(/b(/c)/b)", 0, 0, 1);
        // Without its root the chain would go elsewhere, but node 0 stays.
        spares("a(~a)", 0);
        spares("*(/*/*(/*))", 1, 0, 0);
        // Node 2 itself could be left out, but node 1 above it cannot.
        spares("a(/b(/c/c))", 0, 1, 1);
        // What is below the given node is not used either.
        spares("a(/b(/c)~c)", 0, 0, 1);
        spares("a(~b(/c)~c~b)", 0, 0, 1, 1);
        s.says("the twig, 0 to 3");
        s.with(() -> Checks.made("a", "a(/b)", "a(/b)", "a(/b)", "a(/b/b)"));
        s.answers("spare(0, 1)", x -> x.spare(0, 1), 0);
        s.answers("spare(3, 1)", x -> x.spare(3, 1), 1);
        for (int i : NO_TWIG) {
            s.refuses("spare(" + i + ", 1)", x -> x.spare(i, 1), BAD);
        }
        s.says("the node, 1 or more");
        s.with(Setups::usual);
        for (int q : new int[] {0, -1, MIN}) {
            s.refuses("spare(0, " + q + ")", x -> x.spare(0, q), BAD);
        }
        s.answers("spare(0, 1)", x -> x.spare(0, 1), 0);
    }

    private void spareRefused() {
        s.says("Returns 1 or 0;");
        spares("a(/b/b/b/b/b)", 1, 1, 1, 1, 1);
        spares("a(/b(/c(/d(/e(/f)))))", 0, 0, 0, 0, 0);
        s.says("BAD if an argument is out of range;");
        s.refuses("spare(0, 0) of a new object", x -> x.spare(0, 0), BAD);
        s.refuses("spare(4, 1) of a new object", x -> x.spare(4, 1), BAD);
        s.with(Setups::usual);
        s.refuses("spare(1, 0) of an ordered twig", x -> x.spare(1, 0), BAD);
        s.says("NO if the twig does not exist, has an ordered node, or has no such node.");
        s.with(Setups::usual);
        s.refuses("spare(3, 1), no twig", x -> x.spare(3, 1), NO);
        s.refuses("spare(1, 1), ordered", x -> x.spare(1, 1), NO);
        s.refuses("spare(1, 2), ordered", x -> x.spare(1, 2), NO);
        s.refuses("spare(0, 3), no node", x -> x.spare(0, 3), NO);
        s.refuses("spare(0, MAX), no node", x -> x.spare(0, MAX), NO);
        s.refuses("spare(2, 1), only node 0", x -> x.spare(2, 1), NO);
        s.with(TwigPromises::six);
        s.refuses("spare(0, 6), no node", x -> x.spare(0, 6), NO);
    }
}
