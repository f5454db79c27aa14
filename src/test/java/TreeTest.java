/** Promises 1 to 7: a new object, and the tree. */
public final class TreeTest {
    private static final int NONE = TwigMatches.NONE, BAD = TwigMatches.BAD;
    private static final int NO = TwigMatches.NO, FULL = TwigMatches.FULL;
    private static final int MIN = Integer.MIN_VALUE, MAX = Integer.MAX_VALUE;
    /** Ten levels, one element on each. */
    private static final String CHAIN = "a(b(a(b(a(b(a(b(a(b)))))))))";
    private static final Checks c = new Checks("TreeTest");

    public static void main(String[] args) {
        newObject();
        adds();
        addsAtTheLimits();
        drops();
        sets();
        moves();
        movesOneByOne();
        movesNot();
        element();
        size();
        c.finish();
    }

    private static void newObject() {
        TwigMatches x = new TwigMatches();
        int[] counts = {0, 0, 0, 1, 0, 0, 0};
        for (int what = 0; what < counts.length; what++) {
            c.due("new told " + what, x.told(what), counts[what]);
        }
        int[] root = {0, 0, NONE, 1, 2, 1, 0, 0};
        for (int what = 0; what < root.length; what++) {
            c.due("new element 0 " + what, x.element(0, what), root[what]);
        }
        for (int i = 0; i < 4; i++) {
            c.due("new nodes " + i, x.nodes(i), 0);
        }
        c.due("new why", x.why(), 0);
        c.due("new tree", Checks.tree(x), "a");
        c.due("new clear", x.clear(), 0);
        c.due("new back", x.back(), NO);
    }

    private static void adds() {
        TwigMatches x = new TwigMatches();
        c.due("adds first", x.adds(0, 0, 1, 2), 1);
        c.due("adds before it", x.adds(0, 0, 2, 3), 1);
        c.due("adds below it", x.adds(1, 0, 3, 0), 2);
        c.due("adds after all", x.adds(0, 2, 4, 9), 4);
        c.due("adds between", x.adds(0, 1, 5, 0), 3);
        c.due("adds tree", Checks.tree(x), "a(c3(d)fb2e9)");
        int[][] wrong = {{-1, 0, 0, 0}, {6, 0, 0, 0}, {0, -1, 0, 0}, {0, 5, 0, 0}, {2, 1, 0, 0},
            {0, 0, -1, 0}, {0, 0, 6, 0}, {0, 0, 0, -1}, {0, 0, 0, 10},
            {MIN, 0, 0, 0}, {MAX, 0, 0, 0}, {0, MIN, 0, 0}, {0, MAX, 0, 0}, {0, 0, MAX, 0}, {0, 0, 0, MIN}};
        for (int[] w : wrong) {
            c.due("adds wrong", x.adds(w[0], w[1], w[2], w[3]), BAD);
        }
        c.due("adds tree after errors", Checks.tree(x), "a(c3(d)fb2e9)");
        c.due("adds kept", x.told(6), 5);
        c.due("adds bad", x.told(0), wrong.length);
        c.due("adds back", x.back(), 4);
        c.due("adds tree after back", Checks.tree(x), "a(c3(d)b2e9)");
    }

    private static void addsAtTheLimits() {
        TwigMatches x = Checks.made(CHAIN);
        c.due("adds at level 10", x.adds(8, 1, 0, 0), 10);
        c.due("adds at level 11", x.adds(9, 0, 0, 0), NO);
        c.due("adds at level 11 with a bad tag", x.adds(9, 0, 6, 0), BAD);
        for (int k = 11; k < 32; k++) {
            c.due("adds up to 32", x.adds(0, 0, 1, 1), 1);
        }
        c.due("adds 33rd", x.adds(0, 0, 1, 1), FULL);
        c.due("adds 33rd at level 11", x.adds(30, 0, 1, 1), NO);
        c.due("adds 33rd with a bad value", x.adds(0, 0, 1, 10), BAD);
        c.due("adds size", x.size(), 32);
        c.due("adds no", x.told(1), 2);
        c.due("adds full", x.told(2), 1);
        c.due("adds kept at most 8", x.told(6), 8);
    }

    private static void drops() {
        TwigMatches x = Checks.made("a(b(c(d)e)f(b)c1)");
        c.due("drops root", x.drops(0), NO);
        c.due("drops -1", x.drops(-1), BAD);
        c.due("drops 8", x.drops(8), BAD);
        c.due("drops MIN", x.drops(MIN), BAD);
        c.due("drops MAX", x.drops(MAX), BAD);
        c.due("drops kept", x.told(6), 1);
        c.due("drops leaf", x.drops(4), 1);
        c.due("drops leaf tree", Checks.tree(x), "a(b(c(d))f(b)c1)");
        c.due("drops branch", x.drops(1), 3);
        c.due("drops branch tree", Checks.tree(x), "a(f(b)c1)");
        c.due("drops last", x.drops(3), 1);
        c.due("drops last tree", Checks.tree(x), "a(f(b))");
        c.due("drops all but the root", x.drops(1), 2);
        c.due("drops root tree", Checks.tree(x), "a");
        c.due("drops the only one", x.drops(0), NO);
        c.due("drops kept all", x.told(6), 5);
    }

    private static void sets() {
        TwigMatches x = Checks.made("d7(b)");
        c.due("sets root", x.sets(0, 5, 9), 37);
        c.due("sets child", x.sets(1, 0, 1), 10);
        c.due("sets the same", x.sets(1, 0, 1), 1);
        c.due("sets tree", Checks.tree(x), "f9(a1)");
        c.due("sets kept, also if nothing changed", x.told(6), 4);
        int[][] wrong = {{-1, 0, 0}, {2, 0, 0}, {0, -1, 0}, {0, 6, 0}, {0, 0, -1}, {0, 0, 10},
            {MAX, 0, 0}, {MIN, 0, 0}, {0, MIN, 0}, {0, 0, MAX}};
        for (int[] w : wrong) {
            c.due("sets wrong", x.sets(w[0], w[1], w[2]), BAD);
        }
        c.due("sets tree after errors", Checks.tree(x), "f9(a1)");
        c.due("sets kept after errors", x.told(6), 4);
        c.due("sets back", x.back(), 3);
        c.due("sets back", x.back(), 2);
        c.due("sets tree after back", Checks.tree(x), "f9(b)");
    }

    private static void move(String tree, int e, int to, int at, int want, String then) {
        TwigMatches x = Checks.made(tree);
        String call = "moves " + e + " " + to + " " + at + " in " + tree;
        c.due(call, x.moves(e, to, at), want);
        c.due(call + " tree", Checks.tree(x), then);
        c.due(call + " kept", x.told(6), want >= 0 ? 2 : 1);
        if (want >= 0) {
            x.back();
            c.due(call + " back", Checks.tree(x), tree);
        }
    }

    private static void moves() {
        String tree = "a(b1(c2d3)e4(f5)b6)";
        move(tree, 1, 0, 0, 1, tree);
        move(tree, 1, 0, 1, 3, "a(e4(f5)b1(c2d3)b6)");
        move(tree, 1, 0, 2, 4, "a(e4(f5)b6b1(c2d3))");
        move(tree, 1, 4, 0, 2, "a(e4(b1(c2d3)f5)b6)");
        move(tree, 1, 4, 1, 3, "a(e4(f5b1(c2d3))b6)");
        move(tree, 1, 5, 0, 3, "a(e4(f5(b1(c2d3)))b6)");
        move(tree, 4, 0, 0, 1, "a(e4(f5)b1(c2d3)b6)");
        move(tree, 4, 0, 1, 4, tree);
        move(tree, 4, 1, 1, 3, "a(b1(c2e4(f5)d3)b6)");
        move(tree, 4, 1, 2, 4, "a(b1(c2d3e4(f5))b6)");
        move(tree, 6, 2, 0, 3, "a(b1(c2(b6)d3)e4(f5))");
        move(tree, 3, 0, 0, 1, "a(d3b1(c2)e4(f5)b6)");
        move(tree, 3, 0, 1, 3, "a(b1(c2)d3e4(f5)b6)");
        move(tree, 3, 1, 0, 2, "a(b1(d3c2)e4(f5)b6)");
        move(tree, 2, 1, 1, 3, "a(b1(d3c2)e4(f5)b6)");
        move("a(b(c(d)))", 3, 1, 1, 3, "a(b(cd))");
        move("a(b(c(d)))", 3, 0, 1, 3, "a(b(c)d)");
    }

    private static void movesOneByOne() {
        TwigMatches x = new TwigMatches();
        x.adds(0, 0, 1, 0);
        x.adds(1, 0, 2, 0);
        x.adds(0, 1, 3, 0);
        c.due("moves one by one", x.moves(2, 3, 0), 3);
        c.due("moves one by one tree", Checks.tree(x), "a(bd(c))");
        int[][] want = {{NONE, 1, 8, 1, 2, 3}, {0, 2, 3, 2, 0, 0}, {0, 4, 7, 2, 1, 1}, {2, 5, 6, 3, 0, 0}};
        for (int e = 0; e < want.length; e++) {
            for (int what = 2; what < 8; what++) {
                c.due("moves then element " + e + " " + what, x.element(e, what), want[e][what - 2]);
            }
        }
        c.due("moves one by one", x.moves(2, 1, 0), 2);
        c.due("moves one by one tree", Checks.tree(x), "a(b(d(c)))");
        c.due("moves one by one", x.moves(3, 0, 0), 1);
        c.due("moves one by one tree", Checks.tree(x), "a(cb(d))");
    }

    private static void movesNot() {
        String tree = "a(b1(c2d3)e4(f5)b6)";
        int[][] bad = {{-1, 0, 0}, {7, 0, 0}, {1, -1, 0}, {1, 7, 0}, {1, 0, -1}, {1, 0, 3},
            {1, 4, 2}, {2, 1, 2}, {0, 1, 3}, {1, 1, 3}, {1, 2, 1}, {0, 0, 4},
            {MIN, 0, 0}, {0, MAX, 0}, {1, 0, MIN}, {1, 0, MAX}};
        for (int[] b : bad) {
            move(tree, b[0], b[1], b[2], BAD, tree);
        }
        int[][] no = {{0, 0, 0}, {0, 3, 0}, {0, 0, 3}, {1, 1, 0}, {1, 1, 2}, {1, 2, 0}, {1, 3, 0}};
        for (int[] n : no) {
            move(tree, n[0], n[1], n[2], NO, tree);
        }
        String deep = "a(b(a(b(a(b(a(b(a(b))))))))c(d(e)))";
        move(deep, 10, 9, 0, NO, deep);
        move(deep, 10, 8, 0, NO, deep);
        move(deep, 10, 7, 1, NO, deep);
        move(deep, 10, 6, 0, 7, "a(b(a(b(a(b(a(c(d(e))b(a(b)))))))))");
        move(deep, 12, 8, 1, 10, "a(b(a(b(a(b(a(b(a(be))))))))c(d))");
        move(deep, 12, 9, 0, NO, deep);
        move(deep, 10, 9, 1, BAD, deep);
    }

    private static void element() {
        TwigMatches x = Checks.made("a(b3(cd9(e))f)");
        int[][] want = {
            {0, 0, NONE, 1, 12, 1, 2, 5},
            {1, 3, 0, 2, 9, 2, 2, 3},
            {2, 0, 1, 3, 4, 3, 0, 0},
            {3, 9, 1, 5, 8, 3, 1, 1},
            {4, 0, 3, 6, 7, 4, 0, 0},
            {5, 0, 0, 10, 11, 2, 0, 0}};
        for (int e = 0; e < want.length; e++) {
            for (int what = 0; what < 8; what++) {
                c.due("element " + e + " " + what, x.element(e, what), want[e][what]);
            }
        }
        int[][] wrong = {{-1, 0}, {6, 0}, {0, -1}, {0, 8}, {MIN, 0}, {MAX, 0}, {0, MIN}, {0, MAX}};
        for (int[] w : wrong) {
            c.due("element wrong", x.element(w[0], w[1]), BAD);
        }
        c.due("element NONE is no error", x.told(0), wrong.length);
        TwigMatches deep = Checks.made(CHAIN);
        c.due("element level 10", deep.element(9, 5), 10);
        c.due("element start in the chain", deep.element(9, 3), 10);
        c.due("element end of the chain", deep.element(0, 4), 20);
    }

    private static void size() {
        TwigMatches x = Checks.made("a(bbbbbbbbbbbbbbbbbbbbbbbbbbbbbbb)");
        c.due("size 32", x.size(), 32);
        x.drops(31);
        c.due("size 31", x.size(), 31);
        x.back();
        c.due("size after back", x.size(), 32);
        c.due("size end of the root", x.element(0, 4), 64);
        c.due("size start of the last", x.element(31, 3), 62);
    }
}
