/** Promises 13 to 20: matches, path assignments, and what the removal of an element changes. */
public final class MatchTest {
    private static final int NONE = TwigMatches.NONE, BAD = TwigMatches.BAD, NO = TwigMatches.NO;
    private static final int MIN = Integer.MIN_VALUE, MAX = Integer.MAX_VALUE;
    private static final String STAR = "a(bbbbbbbbbbbbbbbbbbbbbbbbbbbbbbb)";
    private static final Checks c = new Checks("MatchTest");

    public static void main(String[] args) {
        matches();
        ordered();
        manyMatches();
        match();
        matchNot();
        place();
        fits();
        found();
        part();
        ways();
        less();
        c.finish();
    }

    private static void count(String tree, String twig, long want) {
        c.due("matches of " + twig + " in " + tree, Checks.made(tree, twig).matches(0), want);
    }

    private static void matches() {
        count("a", "a", 1);
        count("a", "b", 0);
        count("a", "*", 1);
        count("a(b(c)b(a(b2)c)c3)", "a(~b~c)", 9);
        count("a(b(c)b(a(b2)c)c3)", "*", 8);
        count("a(b(c)b(a(b2)c)c3)", "*(/*)", 7);
        count("a(b(c)b(a(b2)c)c3)", "*(~*)", 12);
        count("a(b(c)b(a(b2)c)c3)", "*(/*(/*))", 4);
        count("a(b(c)b(a(b2)c)c3)", "a(/b/c)", 2);
        count("a(b(c)b(a(b2)c)c3)", "b=0", 2);
        count("a(b(c)b(a(b2)c)c3)", "*>0", 2);
        count("a(b(c)b(a(b2)c)c3)", "*<3", 7);
        count("a(b(c)b(a(b2)c)c3)", "*<0", 0);
        count("a(bb)", "a(/b/b)", 4);
        count("a(a(a(a)))", "a(~a~a)", 14);
        count("a(a(a(a)))", "a(/a(~a))", 3);
        TwigMatches x = Checks.made("a(b)", "a(/b)");
        c.due("matches bad", x.matches(-1), BAD);
        c.due("matches bad", x.matches(4), BAD);
        c.due("matches bad", x.matches(MIN), BAD);
        c.due("matches bad", x.matches(MAX), BAD);
        c.due("matches no", x.matches(1), NO);
        c.due("matches bad count", x.told(0), 4);
        c.due("matches no count", x.told(1), 1);
        x.adds(0, 0, 1, 0);
        c.due("matches after adds", x.matches(0), 2);
        x.sets(1, 2, 0);
        c.due("matches after sets", x.matches(0), 1);
    }

    private static void ordered() {
        count("a(bb)", "a(/b;/b)", 1);
        count("a(bbb)", "a(/b;/b)", 3);
        count("a(bbb)", "a(/b;/b/b)", 9);
        count("a(bbb)", "a(/b/b;/b)", 9);
        count("a(bbb)", "a(/b;/b;/b)", 1);
        count("a(b(b)b)", "a(~b;~b)", 2);
        count("a(b(b))", "a(~b;~b)", 0);
        count("a(b(c)c(b))", "a(~b;~c)", 1);
        count("a(b(c)c(b))", "a(~c;~b)", 1);
        count("a(b(cb)c(bc))", "a(~b;~c)", 5);
        // Only the branch before it matters for an ordered one, not those before that.
        count("a(bcb)", "a(/b/c;/b)", 2);
        count("a(b(b(cd)c)d)", "b(~c;~d)", 2);
    }

    private static void manyMatches() {
        count(STAR, "*(/*/*/*/*/*)", 31L * 31 * 31 * 31 * 31);
        count(STAR, "*(/*;/*;/*;/*;/*)", 169911);
        count(STAR, "*(~*;~*~*;~*~*)", 465L * 465 * 31);
        TwigMatches x = Checks.made(STAR, "*(/*/*/*/*/*)", "*(/*;/*;/*;/*;/*)");
        long all = 31L * 31 * 31 * 31 * 31;
        int[] last = {0, 31, 31, 31, 31, 31};
        int[] later = {0, 27, 28, 29, 30, 31};
        for (int q = 0; q < 6; q++) {
            c.due("match last of many " + q, x.match(0, all - 1, q), last[q]);
            c.due("match last ordered of many " + q, x.match(1, 169910, q), later[q]);
            c.due("match first of many " + q, x.match(0, 0, q), q == 0 ? 0 : 1);
            c.due("match first ordered of many " + q, x.match(1, 0, q), q);
        }
        c.due("match behind the last of many", x.match(0, all, 0), NONE);
        c.due("place last of many", x.place(0, (1L << 25) - 1), all - 1);
        c.due("place with too many digits", x.place(0, (1L << 30) + (1L << 25) - 1), NONE);
        c.due("found of many", x.found(0, 5), -2);
        c.due("found ordered of many", x.found(1, 5), Checks.set(31) | -32);
        c.due("part of many", x.part(0, 5, 31), all / 31);
        c.due("part ordered of many", x.part(1, 1, 1), 27405);
        c.due("less of many", x.less(0, 7), 30L * 30 * 30 * 30 * 30 - all);
        c.due("fits with element 31", x.fits(0, 0), -1);
    }

    /** Compares the whole list of matches, then the numbers of them. */
    private static void list(String tree, String twig, int[]... want) {
        TwigMatches x = Checks.made(tree, twig);
        String name = twig + " in " + tree;
        c.due("matches of " + name, x.matches(0), want.length);
        for (int j = 0; j < want.length; j++) {
            long told = 0;
            for (int q = 0; q < want[j].length; q++) {
                c.due("match " + j + " " + q + " of " + name, x.match(0, j, q), want[j][q]);
                told = told * 32 + want[j][q];
            }
            c.due("place of match " + j + " of " + name, x.place(0, told), j);
        }
        c.due("match behind the last of " + name, x.match(0, want.length, 0), NONE);
    }

    private static void match() {
        list("a(b(c)b(a(b2)c)c3)", "a(~b~c)", new int[] {0, 1, 2}, new int[] {0, 1, 6},
            new int[] {0, 1, 7}, new int[] {0, 3, 2}, new int[] {0, 3, 6}, new int[] {0, 3, 7},
            new int[] {0, 5, 2}, new int[] {0, 5, 6}, new int[] {0, 5, 7});
        list("a(b1c2b3c4)", "a(/b;/c)", new int[] {0, 1, 2}, new int[] {0, 1, 4}, new int[] {0, 3, 4});
        list("a(a(bc)a(b))", "*(~a(/b)~c)", new int[] {0, 1, 2, 3}, new int[] {0, 4, 5, 3});
        list("a(a(bb)c(c))", "*(/*(/b)/c)", new int[] {0, 1, 2, 4}, new int[] {0, 1, 3, 4});
        list("a(b(dd)cb(d)c)", "a(/b(/d);/c)", new int[] {0, 1, 2, 4}, new int[] {0, 1, 2, 7},
            new int[] {0, 1, 3, 4}, new int[] {0, 1, 3, 7}, new int[] {0, 5, 6, 7});
        list("a(a(a))", "a(~a)", new int[] {0, 1}, new int[] {0, 2}, new int[] {1, 2});
        list("a(b)", "c");
    }

    private static void matchNot() {
        TwigMatches x = Checks.made("a(b)", "a(/b)", "c");
        c.due("match bad", x.match(-1, 0, 0), BAD);
        c.due("match bad", x.match(4, 0, 0), BAD);
        c.due("match bad", x.match(0, -1, 0), BAD);
        c.due("match bad", x.match(0, Long.MIN_VALUE, 0), BAD);
        c.due("match bad", x.match(0, 0, -1), BAD);
        c.due("match bad before no", x.match(3, -1, 0), BAD);
        c.due("match bad before no", x.match(0, -1, 2), BAD);
        c.due("match bad", x.match(0, 0, MIN), BAD);
        c.due("match no", x.match(3, 0, 0), NO);
        c.due("match no", x.match(0, 0, 2), NO);
        c.due("match no before none", x.match(0, 1, 2), NO);
        c.due("match no before none", x.match(1, 0, 1), NO);
        c.due("match no", x.match(0, 0, MAX), NO);
        c.due("match none", x.match(0, 1, 0), NONE);
        c.due("match none", x.match(0, 1L << 32, 0), NONE);
        c.due("match none", x.match(0, Long.MAX_VALUE, 1), NONE);
        c.due("match none", x.match(1, 0, 0), NONE);
        c.due("match bad count", x.told(0), 8);
        c.due("match no count", x.told(1), 5);
    }

    private static void place() {
        TwigMatches x = Checks.made("a(b(c)b(a(b2)c)c3)", "a(~b~c)", "a(~b;~c)", "b");
        c.due("place wrong root", x.place(0, 32 * 32 * 4 + 32 * 5 + 6), NONE);
        c.due("place wrong tag", x.place(0, 32 * 2 + 2), NONE);
        c.due("place not below", x.place(0, 32 * 0 + 2), NONE);
        c.due("place no such element", x.place(0, 32 * 1 + 31), NONE);
        c.due("place too many digits", x.place(0, 32 * 32 * 32 + 32 + 2), NONE);
        c.due("place too many digits", x.place(0, (1L << 32) + 34), NONE);
        c.due("place too many digits", x.place(0, (1L << 62) + 34), NONE);
        c.due("place MAX", x.place(0, Long.MAX_VALUE), NONE);
        c.due("place ordered inside", x.place(1, 32 * 1 + 2), NONE);
        c.due("place ordered before", x.place(1, 32 * 3 + 2), NONE);
        c.due("place ordered", x.place(1, 32 * 1 + 6), 0);
        c.due("place ordered", x.place(1, 32 * 3 + 7), 2);
        c.due("place ordered", x.place(1, 32 * 5 + 6), 3);
        c.due("place one node", x.place(2, 3), 1);
        c.due("place one node", x.place(2, 0), NONE);
        c.due("place bad", x.place(-1, 0), BAD);
        c.due("place bad", x.place(4, 0), BAD);
        c.due("place bad", x.place(0, -1), BAD);
        c.due("place bad", x.place(3, -1), BAD);
        c.due("place bad", x.place(0, Long.MIN_VALUE), BAD);
        c.due("place no", x.place(3, 0), NO);
        c.due("place bad count", x.told(0), 5);
        c.due("place no count", x.told(1), 1);
    }

    private static void fits() {
        TwigMatches x = Checks.made("a(b1(c)b2(a(b2)c)c3)", "b(/*<2/*=2~b>1/c/d)");
        int[] want = {Checks.set(1, 3, 5), Checks.set(0, 1, 2, 4, 6), Checks.set(3, 5),
            Checks.set(3, 5), Checks.set(2, 6, 7), 0};
        for (int q = 0; q < want.length; q++) {
            c.due("fits " + q, x.fits(0, q), want[q]);
        }
        c.due("fits counts no error", x.told(0) + x.told(1), 0);
        sameErrors(x, true);
    }

    private static void found() {
        TwigMatches x = Checks.made("a(b(c)b(a(b2)c)c3)", "a(/b/c)", "*(/a(~*))", "a(~b(/c;~a))");
        int[][] want = {{Checks.set(0), Checks.set(1, 3), Checks.set(7)},
            {Checks.set(3), Checks.set(4), Checks.set(5)}, {0, 0, 0, 0}};
        for (int i = 0; i < want.length; i++) {
            for (int q = 0; q < want[i].length; q++) {
                c.due("found " + i + " " + q, x.found(i, q), want[i][q]);
            }
        }
        c.due("found counts no error", x.told(0) + x.told(1), 0);
        sameErrors(x, false);
        TwigMatches y = Checks.made("a(bcbcb)", "a(/b;/c)", "a(/c;/b;/c)", "a(~*~*;~c)");
        c.due("found ordered", y.found(0, 1), Checks.set(1, 3));
        c.due("found ordered", y.found(0, 2), Checks.set(2, 4));
        c.due("found ordered", y.found(1, 1), Checks.set(2));
        c.due("found ordered", y.found(1, 2), Checks.set(3));
        c.due("found ordered", y.found(1, 3), Checks.set(4));
        c.due("found ordered", y.found(2, 1), Checks.set(1, 2, 3, 4, 5));
        c.due("found ordered", y.found(2, 2), Checks.set(1, 2, 3));
        c.due("found ordered", y.found(2, 3), Checks.set(2, 4));
        // The b below d is no child of the root, so the c behind it is in no match.
        TwigMatches z = Checks.made("a(d(b)cbc(bc(b)c))", "*(/b;/c)", "*(/b/c;/*)", "*(~d;~b/c;/b)");
        int[][] far = {{Checks.set(0, 5), Checks.set(4, 6), Checks.set(5, 7, 9)},
            {Checks.set(0, 5), Checks.set(4, 6), Checks.set(3, 7), Checks.set(4, 5, 9)},
            {Checks.set(0), Checks.set(1), Checks.set(4, 6, 8), Checks.set(3), Checks.set(4)}};
        for (int i = 0; i < far.length; i++) {
            for (int q = 0; q < far[i].length; q++) {
                c.due("found at several roots " + i + " " + q, z.found(i, q), far[i][q]);
            }
        }
        TwigMatches w = Checks.made("a(a(cb)a(bc)bac)", "*(/b;/c)", "*(/c/b)", "*(/a/a;/b;/*)");
        c.due("found at several roots", w.found(0, 0), Checks.set(0, 4));
        c.due("found at several roots", w.found(0, 1), Checks.set(5, 7));
        c.due("found at several roots", w.found(0, 2), Checks.set(6, 9));
        c.due("found at several roots", w.found(1, 0), Checks.set(0, 1, 4));
        c.due("found at several roots", w.found(1, 2), Checks.set(3, 5, 7));
        c.due("found after unordered ones", w.found(2, 1), Checks.set(1, 4, 8));
        c.due("found after unordered ones", w.found(2, 2), Checks.set(1, 4));
        c.due("found after unordered ones", w.found(2, 3), Checks.set(7));
        c.due("found after unordered ones", w.found(2, 4), Checks.set(8, 9));
    }

    /** Wrong calls of fits() and found(): 0 is answered, and the error is counted. */
    private static void sameErrors(TwigMatches x, boolean fits) {
        int[][] bad = {{-1, 0}, {4, 0}, {0, -1}, {3, -1}, {MIN, 0}, {MAX, MIN}};
        int[][] no = {{3, 0}, {3, 7}, {0, 6}, {0, MAX}};
        for (int[] b : bad) {
            c.due("fits or found bad", fits ? x.fits(b[0], b[1]) : x.found(b[0], b[1]), 0);
        }
        for (int[] n : no) {
            c.due("fits or found no", fits ? x.fits(n[0], n[1]) : x.found(n[0], n[1]), 0);
        }
        c.due("fits or found bad count", x.told(0), bad.length);
        c.due("fits or found no count", x.told(1), no.length);
    }

    private static void part() {
        TwigMatches x = Checks.made("a(b(c)b(a(b2)c)c3)", "a(~b~c)", "a(~b;~c)");
        int[][] want = {{9, 0, 0, 0, 0, 0, 0, 0}, {0, 3, 0, 3, 0, 3, 0, 0}, {0, 0, 3, 0, 0, 0, 3, 3}};
        int[][] ordered = {{5, 0, 0, 0, 0, 0, 0, 0}, {0, 2, 0, 1, 0, 2, 0, 0}, {0, 0, 0, 0, 0, 0, 2, 3}};
        for (int q = 0; q < 3; q++) {
            for (int e = 0; e < 8; e++) {
                c.due("part " + q + " " + e, x.part(0, q, e), want[q][e]);
                c.due("part ordered " + q + " " + e, x.part(1, q, e), ordered[q][e]);
            }
        }
        int[][] bad = {{-1, 0, 0}, {4, 0, 0}, {0, -1, 0}, {0, 0, -1}, {0, 0, 8}, {3, 0, 8}, {0, 3, 8},
            {MIN, 0, 0}, {0, MIN, 0}, {0, 0, MAX}, {0, 0, MIN}};
        for (int[] b : bad) {
            c.due("part bad", x.part(b[0], b[1], b[2]), BAD);
        }
        int[][] no = {{3, 0, 0}, {0, 3, 0}, {0, MAX, 7}};
        for (int[] n : no) {
            c.due("part no", x.part(n[0], n[1], n[2]), NO);
        }
        c.due("part bad count", x.told(0), bad.length);
        c.due("part no count", x.told(1), no.length);
    }

    private static void way(String tree, String twig, int q, long all, long used) {
        TwigMatches x = Checks.made(tree, twig);
        c.due("ways 0 to " + q + " of " + twig + " in " + tree, x.ways(0, q, 0), all);
        c.due("ways 1 to " + q + " of " + twig + " in " + tree, x.ways(0, q, 1), used);
    }

    private static void ways() {
        String tree = "a(b(c)b(a(b2)c)c3)";
        way(tree, "a(~b~c)", 0, 2, 1);
        way(tree, "a(~b~c)", 1, 4, 3);
        way(tree, "a(~b~c)", 2, 3, 3);
        way(tree, "*(~*(~*))", 2, 6, 6);
        way(tree, "*(~*(/*(~d)))", 2, 5, 0);
        way(tree, "b(/c)", 0, 3, 2);
        // Order does not matter for all path assignments, but for the used ones.
        way("a(bcbc)", "a(/c;/b)", 1, 2, 1);
        way("a(bcbc)", "a(/c;/b)", 2, 2, 1);
        way("a(bcbc)", "a(/c;/b(/d))", 2, 2, 0);
        way("a(bcbc)", "a(/b;/c;/b)", 2, 2, 1);
        way("a(a(a(a(a))))", "a(~a(~a(~a)))", 3, 5, 5);
        way("a(a(a(a(a))))", "a(~a(~a(~a)))", 1, 10, 3);
        way("a(a(a(a(a))))", "a(/a(/a(/a)))", 2, 3, 2);
        way("a(b(c)b(d))", "a(/b(/c)/b(/d))", 1, 2, 1);
        way("a(b(c)b(d))", "a(/b(/c)/b(/d))", 3, 2, 1);
        way("a(b(cc)b(d))", "a(/b(/c)/b(/d))", 2, 2, 2);
        TwigMatches x = Checks.made(tree, "a(~b~c)");
        int[][] bad = {{-1, 0, 0}, {4, 0, 0}, {0, -1, 0}, {0, 0, -1}, {0, 0, 2}, {3, 0, 2}, {0, 3, 2},
            {MAX, 0, 0}, {0, MIN, 1}, {0, 0, MAX}, {0, 0, MIN}};
        for (int[] b : bad) {
            c.due("ways bad", x.ways(b[0], b[1], b[2]), BAD);
        }
        int[][] no = {{3, 0, 0}, {3, 0, 1}, {0, 3, 0}, {0, MAX, 1}};
        for (int[] n : no) {
            c.due("ways no", x.ways(n[0], n[1], n[2]), NO);
        }
        c.due("ways bad count", x.told(0), bad.length);
        c.due("ways no count", x.told(1), no.length);
    }

    private static void less() {
        String tree = "a(b(c)b(a(b2)c)c3)";
        for (int e = 1; e < 8; e++) {
            TwigMatches x = Checks.made(tree, "a(~b~c)", "*(~*;~*)");
            for (int i = 0; i < 2; i++) {
                long less = x.less(i, e);
                long before = x.matches(i);
                x.drops(e);
                c.due("less " + i + " " + e + " is what drops changes", less, x.matches(i) - before);
                x.back();
                c.due("matches " + i + " after less and back", x.matches(i), before);
            }
        }
        TwigMatches x = Checks.made(tree, "a(~b~c)", "d");
        long[] want = {-5, -3, -7, -3, -3, -3, -3};
        for (int e = 1; e < 8; e++) {
            c.due("less " + e, x.less(0, e), want[e - 1]);
            c.due("less without matches " + e, x.less(1, e), 0);
        }
        c.due("less changes nothing", Checks.tree(x), tree);
        c.due("less keeps nothing", x.told(6), 3);
        int[][] bad = {{-1, 1}, {4, 1}, {0, -1}, {0, 8}, {3, 8}, {-1, 0}, {MIN, 1}, {0, MAX}, {0, MIN}};
        for (int[] b : bad) {
            c.due("less bad", x.less(b[0], b[1]), BAD);
        }
        int[][] no = {{3, 1}, {0, 0}, {3, 0}};
        for (int[] n : no) {
            c.due("less no", x.less(n[0], n[1]), NO);
        }
        c.due("less bad count", x.told(0), bad.length);
        c.due("less no count", x.told(1), no.length);
    }
}
