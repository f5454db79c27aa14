/** Promises 27 to 29: kept states, counts and the digest. */
public final class StateTest {
    private static final int NONE = TwigMatches.NONE, BAD = TwigMatches.BAD;
    private static final int NO = TwigMatches.NO, FULL = TwigMatches.FULL;
    private static final int MIN = Integer.MIN_VALUE, MAX = Integer.MAX_VALUE;
    private static final Checks c = new Checks("StateTest");

    public static void main(String[] args) {
        backOverEachChange();
        backAtTheLimit();
        backLeavesTheRest();
        nothingElseIsKept();
        told();
        digest();
        digestFollowsEachNumber();
        c.finish();
    }

    private static void backOverEachChange() {
        TwigMatches x = Checks.made("a(b(c)d)", "a(/b)");
        String[] trees = new String[7];
        String[] twigs = new String[7];
        for (int k = 0; k < 7; k++) {
            trees[k] = Checks.tree(x);
            twigs[k] = Checks.shown(x, 0);
            switch (k) {
                case 0: x.adds(0, 0, 4, 4); break;
                case 1: x.drops(2); break;
                case 2: x.sets(0, 5, 5); break;
                case 3: x.moves(1, 2, 0); break;
                case 4: x.forgets(0); break;
                case 5: Checks.build(x, "b(b)"); break;
                default: Checks.twig(x, 0, "f(~e)"); break;
            }
        }
        c.due("back before", Checks.tree(x) + Checks.shown(x, 0), "b(b)f(~e)");
        // The first two were kept when the object was made, and only 8 fit.
        for (int k = 6; k >= 0; k--) {
            c.due("back " + k, x.back(), k + 1);
            c.due("back tree " + k, Checks.tree(x), trees[k]);
            c.due("back twig " + k, Checks.shown(x, 0), twigs[k]);
        }
        c.due("back to before the twig", x.back(), 0);
        c.due("back to before the twig, nodes", x.nodes(0), 0);
        c.due("back none", x.back(), NO);
        c.due("back none, tree", Checks.tree(x), "a(b(c)d)");
    }

    private static void backAtTheLimit() {
        TwigMatches x = new TwigMatches();
        for (int k = 1; k <= 20; k++) {
            x.sets(0, k % 6, k % 10);
            c.due("kept after " + k, x.told(6), Math.min(8, k));
        }
        for (int k = 19; k >= 12; k--) {
            c.due("back over " + k, x.back(), k - 12);
            c.due("back over " + k + " tag", x.element(0, 0), k % 6);
            c.due("back over " + k + " value", x.element(0, 1), k % 10);
        }
        c.due("back beyond", x.back(), NO);
        c.due("back beyond again", x.back(), NO);
        c.due("back beyond count", x.told(1), 2);
        x.sets(0, 1, 1);
        c.due("kept after all", x.told(6), 1);
        c.due("back after all", x.back(), 0);
        c.due("back after all, tag", x.element(0, 0), 0);
    }

    private static void backLeavesTheRest() {
        TwigMatches x = Checks.made("a(b)");
        Checks.write(x, "a(");
        x.builds();
        x.drops(0);
        x.back();
        c.due("back leaves the text", x.told(5), 2);
        c.due("back leaves why", x.why(), 1);
        c.due("back leaves the counts", x.told(1), 1);
        c.due("back restores the size", x.told(3), 1);
    }

    private static void nothingElseIsKept() {
        TwigMatches x = Checks.made("a(b)", "a(/b)");
        x.element(0, 0);
        x.size();
        x.node(0, 0, 0);
        x.nodes(0);
        x.folds(0, 0);
        x.spare(0, 1);
        x.matches(0);
        x.match(0, 0, 0);
        x.place(0, 1);
        x.fits(0, 0);
        x.found(0, 0);
        x.part(0, 0, 0);
        x.ways(0, 0, 0);
        x.less(0, 1);
        x.type('a');
        x.clear();
        x.why();
        x.shown(0, 0);
        x.told(0);
        x.digest();
        x.builds();
        x.twigs(0);
        x.twigs(5);
        x.adds(9, 9, 9, 9);
        x.drops(0);
        x.sets(9, 9, 9);
        x.moves(0, 1, 0);
        x.forgets(1);
        c.due("nothing else is kept", x.told(6), 2);
    }

    private static void told() {
        TwigMatches x = Checks.made("a(bc)", "a", "b");
        x.forgets(0);
        Checks.twig(x, 3, "c");
        x.back();
        x.back();
        Checks.twig(x, 3, "c(/d)");
        x.element(9, 9);
        x.fits(0, -1);
        x.told(-1);
        x.drops(0);
        x.found(2, 0);
        Checks.write(x, "");
        for (int k = 0; k < 123; k++) {
            x.type('b');
        }
        int[] want = {3, 2, 3, 3, 11, 120, 4};
        for (int what = 0; what < 7; what++) {
            c.due("told " + what, x.told(what), want[what]);
        }
        c.due("told 7", x.told(7), BAD);
        c.due("told -1", x.told(-1), BAD);
        c.due("told MIN", x.told(MIN), BAD);
        c.due("told MAX", x.told(MAX), BAD);
        c.due("told bad counts itself", x.told(0), 7);
        c.due("told codes", NONE + 10 * BAD + 100 * NO + 1000 * FULL, -4321);
    }

    private static long hash(long... numbers) {
        long h = 1716;
        for (long number : numbers) {
            h = 31 * h + number;
        }
        return h;
    }

    private static void digest() {
        TwigMatches x = new TwigMatches();
        c.due("digest new", x.digest(), hash(0, 0, 0, 1, 0, 0, 0, 0, 0, 0, NONE));
        c.due("digest again", x.digest(), hash(0, 0, 0, 1, 0, 0, 0, 0, 0, 0, NONE));
        Checks.build(x, "b2(c3(d)e)");
        Checks.twig(x, 1, "*(~*<4;/e=0)");
        Checks.twig(x, 3, "d>5");
        x.drops(0);
        x.drops(9);
        x.told(9);
        Checks.build(x, "ab");
        c.due("digest full", x.digest(), hash(2, 1, 0, 4, 10, 2, 3, 1,
            1, 2, NONE, 2, 3, 0, 3, 0, 1, 4, 0, 0,
            3, 6, 1023, 0, 0, NONE, 6, 15, 2, 0, 0, 4, 1, 1, 1, 0, 2,
            1, 3, 960, 0, 0, NONE, 0));
        c.due("digest changes nothing", x.told(0) + x.told(1) + x.told(6), 6);
    }

    private static void digestFollowsEachNumber() {
        TwigMatches x = Checks.made("a(b)", "a(/b)");
        long before = x.digest();
        x.type('a');
        c.due("digest after type", x.digest() == before ? 1 : 0, 0);
        x.clear();
        Checks.write(x, "a(/b)");
        c.due("digest after the same text", x.digest(), before);
        x.sets(1, 1, 0);
        x.back();
        c.due("digest after back", x.digest(), before);
        x.fits(9, 0);
        c.due("digest after a counted error", x.digest() == before ? 1 : 0, 0);
    }
}
