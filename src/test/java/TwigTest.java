/** Promises 8 to 12: twigs, and mappings between them. */
public final class TwigTest {
    private static final int NONE = TwigMatches.NONE, BAD = TwigMatches.BAD, NO = TwigMatches.NO;
    private static final int MIN = Integer.MIN_VALUE, MAX = Integer.MAX_VALUE;
    private static final Checks c = new Checks("TwigTest");

    public static void main(String[] args) {
        node();
        forgets();
        nodes();
        foldsTags();
        foldsTests();
        foldsEdges();
        foldsNot();
        spare();
        spareNot();
        c.finish();
    }

    private static void node() {
        TwigMatches x = Checks.made("a", "a=3(/b<4(~*)~*>9;/f>0;~c<0)");
        int[][] want = {
            {0, 1 << 3, 0, 0, NONE},
            {1, 15, 1, 0, 0},
            {6, 1023, 2, 0, 1},
            {6, 0, 2, 0, 0},
            {5, 1022, 1, 1, 0},
            {2, 0, 2, 1, 0}};
        for (int q = 0; q < want.length; q++) {
            for (int what = 0; what < 5; what++) {
                c.due("node " + q + " " + what, x.node(0, q, what), want[q][what]);
            }
        }
        int[][] bad = {{-1, 0, 0}, {4, 0, 0}, {0, -1, 0}, {0, 0, -1}, {0, 0, 5}, {1, -1, 0}, {1, 0, 5},
            {0, 6, 5}, {MIN, 0, 0}, {MAX, 0, 0}, {0, MIN, 0}, {0, 0, MIN}, {0, 0, MAX}};
        for (int[] b : bad) {
            c.due("node bad", x.node(b[0], b[1], b[2]), BAD);
        }
        int[][] no = {{1, 0, 0}, {3, 0, 4}, {0, 6, 0}, {0, MAX, 0}};
        for (int[] n : no) {
            c.due("node no", x.node(n[0], n[1], n[2]), NO);
        }
        c.due("node bad count", x.told(0), bad.length);
        c.due("node no count", x.told(1), no.length);
        TwigMatches y = Checks.made("a", "*=9", "e=0", "b>8", "b<9");
        c.due("node =9", y.node(0, 0, 1), 512);
        c.due("node =0", y.node(1, 0, 1), 1);
        c.due("node >8", y.node(2, 0, 1), 512);
        c.due("node <9", y.node(3, 0, 1), 511);
    }

    private static void forgets() {
        TwigMatches x = Checks.made("a", "a(/b/c)", "b");
        c.due("forgets -1", x.forgets(-1), BAD);
        c.due("forgets 4", x.forgets(4), BAD);
        c.due("forgets MIN", x.forgets(MIN), BAD);
        c.due("forgets MAX", x.forgets(MAX), BAD);
        c.due("forgets 3", x.forgets(3), NO);
        c.due("forgets kept nothing yet", x.told(6), 3);
        c.due("forgets 0", x.forgets(0), 3);
        c.due("forgets kept", x.told(6), 4);
        c.due("forgets others stay", x.told(4), 2);
        c.due("forgets 0 again", x.forgets(0), NO);
        c.due("forgets matches", x.matches(0), NO);
        c.due("forgets back", x.back(), 3);
        c.due("forgets back twig", Checks.shown(x, 0), "a(/b/c)");
    }

    private static void nodes() {
        TwigMatches x = Checks.made("a", "*", "a(/b)", "a(~b(~c(~d(~e(~f)))))");
        int[] want = {1, 2, 6, 0};
        for (int i = 0; i < 4; i++) {
            c.due("nodes " + i, x.nodes(i), want[i]);
        }
        int[] wrong = {-1, 4, MIN, MAX};
        for (int w : wrong) {
            c.due("nodes " + w, x.nodes(w), BAD);
        }
        c.due("nodes bad", x.told(0), wrong.length);
        c.due("nodes no", x.told(1), 0);
    }

    private static void fold(String x, String y, int want) {
        c.due("folds " + x + " into " + y, Checks.made("a", x, y).folds(0, 1), want);
    }

    private static void foldsTags() {
        fold("a", "a", 1);
        fold("a", "b", 0);
        fold("*", "b", 1);
        fold("b", "*", 0);
        fold("*", "*", 1);
        fold("b", "a(~b)", 1);
        fold("b(~c)", "a(/a/b(/d/c))", 1);
        fold("a(/b~b)", "a(/b)", 1);
        fold("a(/b/c)", "a(/b)", 0);
        fold("a(/b(/d)/c)", "a(/b/c(/d))", 0);
        fold("*(/*(/*(/*)))", "a(/b(/c))", 0);
    }

    private static void foldsTests() {
        fold("a", "a=3", 1);
        fold("a=3", "a", 0);
        fold("a<5", "a=3", 1);
        fold("a<5", "a=5", 0);
        fold("a<5", "a<5", 1);
        fold("a<5", "a<4", 1);
        fold("a<4", "a<5", 0);
        fold("a>2", "a>3", 1);
        fold("a>3", "a>2", 0);
        fold("a=0", "a<1", 1);
        fold("a<1", "a=0", 1);
        fold("a=9", "a>8", 1);
        fold("a=2", "a<0", 1);
        fold("a<0", "a>9", 1);
        fold("a>9", "a", 0);
    }

    private static void foldsEdges() {
        fold("a(/b)", "a(~b)", 0);
        fold("a(~b)", "a(/b)", 1);
        fold("a(~c)", "a(~b(/c))", 1);
        fold("a(/c)", "a(/b(/c))", 0);
        fold("a(~*(~c))", "a(/b(~c))", 1);
        fold("a(~*(~c))", "a(/c)", 0);
        fold("a(~c)", "a(/b)", 0);
        fold("b(/c)", "a(/b(/c))", 1);
        fold("a(~b(/c)~b(/d))", "a(~b(/c/d))", 1);
        fold("a(~b(/c/d))", "a(~b(/c)~b(/d))", 0);
        fold("*(~a(/b~c)~*)", "d(/e(/a(/b(~c))))", 1);
    }

    private static void foldsNot() {
        TwigMatches x = Checks.made("a", "a(/b)", "a(/b;/c)", "a(/b(~c;~d))");
        int[][] bad = {{-1, 0}, {4, 0}, {0, -1}, {0, 4}, {3, 4}, {MIN, MAX}, {1, 4}};
        for (int[] b : bad) {
            c.due("folds bad", x.folds(b[0], b[1]), BAD);
        }
        int[][] no = {{0, 3}, {3, 0}, {3, 3}, {0, 1}, {1, 0}, {0, 2}, {2, 0}, {1, 1}};
        for (int[] n : no) {
            c.due("folds no", x.folds(n[0], n[1]), NO);
        }
        c.due("folds itself", x.folds(0, 0), 1);
        c.due("folds bad count", x.told(0), bad.length);
        c.due("folds no count", x.told(1), no.length);
        c.due("folds keeps nothing", x.told(6), 4);
    }

    private static void spares(String twig, int... want) {
        TwigMatches x = Checks.made("a", twig);
        for (int q = 1; q <= want.length; q++) {
            c.due("spare " + q + " of " + twig, x.spare(0, q), want[q - 1]);
        }
        c.due("spare behind the last of " + twig, x.spare(0, want.length + 1), NO);
    }

    private static void spare() {
        spares("a");
        spares("a(/b)", 0);
        spares("a(/b/b)", 1, 1);
        spares("a(/b~b)", 0, 1);
        spares("a(~b~*)", 0, 1);
        spares("a(/b(/c)/b)", 0, 0, 1);
        spares("a(/b(/c)~c)", 0, 0, 1);
        spares("a(/b(/c/c)/b(/c))", 1, 1, 1, 1, 1);
        spares("a(/b(/c/d)/b(/c))", 0, 0, 0, 1, 1);
        spares("a(~b<5~b<3)", 1, 0);
        spares("a(~a(~a)~a)", 0, 0, 1);
        // Node 0 must stay, so the chain cannot slide down.
        spares("*(/*(/*))", 0, 0);
        spares("a(~*(/b)~b)", 0, 0, 1);
    }

    private static void spareNot() {
        TwigMatches x = Checks.made("a", "a(/b/b)", "a(/b;/b)");
        int[][] bad = {{-1, 1}, {4, 1}, {0, 0}, {0, -1}, {1, 0}, {3, 0}, {MAX, 1}, {0, MIN}};
        for (int[] b : bad) {
            c.due("spare bad", x.spare(b[0], b[1]), BAD);
        }
        int[][] no = {{1, 1}, {1, 2}, {1, 3}, {0, 3}, {0, MAX}, {3, 1}};
        for (int[] n : no) {
            c.due("spare no", x.spare(n[0], n[1]), NO);
        }
        c.due("spare bad count", x.told(0), bad.length);
        c.due("spare no count", x.told(1), no.length);
        c.due("spare keeps nothing", x.told(6), 3);
    }
}
