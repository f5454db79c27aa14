import java.math.BigInteger;

/** Promises 27 to 29, sentence by sentence: kept states, counts and the digest. */
final class StatePromises {
    private static final int NONE = TwigMatches.NONE, BAD = TwigMatches.BAD, NO = TwigMatches.NO;
    private static final int MIN = Integer.MIN_VALUE, MAX = Integer.MAX_VALUE;
    private final Sentences s;

    StatePromises(Sentences s) {
        this.s = s;
    }

    void all() {
        s.promise(27);
        back();
        s.promise(28);
        told();
        s.promise(29);
        digest();
    }

    private void back() {
        s.says("Restores the state that was kept last; it is not kept any more then.");
        TwigMatches x = Setups.usual();
        x.drops(3);
        x.forgets(0);
        s.due("back()", x.back(), 5);
        s.due("state", Sentences.state(x), "a(b(c)c3) 0:a(~b~c)=2 1:a(~b;~c)=1 2:b=1");
        s.due("back() once more", x.back(), 4);
        s.due("state once more", Sentences.state(x), "a(b(c)b(a(b2)c)c3) 0:a(~b~c)=9 1:a(~b;~c)=5 2:b=3");
        s.due("told(6)", x.told(6), 4);
        // What was undone cannot be done again by another back().
        s.due("back() to before twig 2", x.back(), 3);
        s.due("nodes(2)", x.nodes(2), 0);
        s.due("text and reason stay", 10 * x.told(5) + x.why(), 10);
        s.says("Returns how many states are still kept;");
        s.with(Setups::eightKept);
        s.answers("back() with eight states", y -> y.back(), 7);
        s.with(() -> Checks.made("b"));
        s.answers("back() with one state", y -> y.back(), 0);
        TwigMatches full = Setups.eightKept();
        for (int left = 7; left >= 0; left--) {
            s.due("back() to " + left, full.back(), left);
            s.due("value then", full.element(0, 1), left + 1);
        }
        s.due("a ninth back()", full.back(), NO);
        s.due("value after it", full.element(0, 1), 1);
        s.says("NO if there is none.");
        s.refuses("back() of a new object", y -> y.back(), NO);
        s.with(() -> {
            TwigMatches y = Checks.made("b(c)");
            y.back();
            return y;
        });
        s.refuses("back() after the last one", y -> y.back(), NO);
        s.with(() -> {
            TwigMatches y = new TwigMatches();
            y.drops(0);
            y.builds();
            return y;
        });
        s.refuses("back() after an error and a fault", y -> y.back(), NO);
    }

    private void told() {
        s.says("Returns a count.");
        s.with(Setups::usual);
        int[] usual = {0, 0, 0, 8, 7, 1, 4};
        for (int k = 0; k < 7; k++) {
            int what = k;
            s.answers("told(" + what + ")", x -> x.told(what), usual[what]);
        }
        s.says("0 how often BAD occurred, 1 how often NO, 2 how often FULL, 3 elements, 4 the set of the "
                + "twigs that exist, 5 bytes of the text, 6 kept states");
        TwigMatches x = Setups.longText();
        x.drops(-1);
        x.fits(4, 0);
        x.told(7);
        x.back();
        x.back();
        x.back();
        x.found(0, 0);
        x.type('a');
        x.twigs(3);
        int[] want = {3, 2, 1, 1, 0, 120, 0};
        for (int what = 0; what < 7; what++) {
            s.due("told(" + what + ")", x.told(what), want[what]);
        }
        s.due("builds of 32", x.builds(), 32);
        s.due("told(3) when the tree is full", x.told(3), 32);
        s.due("told(6) after it", x.told(6), 1);
        s.says("Returns the count;");
        s.with(() -> Checks.made("a", "a", "a", "a", "a"));
        s.answers("told(4) with all twigs", y -> y.told(4), 15);
        s.with(Setups::eightKept);
        s.answers("told(6) with eight states", y -> y.told(6), 8);
        s.says("BAD if what is out of range.");
        for (int what : new int[] {-1, 7, MIN, MAX}) {
            s.refuses("told(" + what + ")", y -> y.told(what), BAD);
        }
    }

    /** The hash value, counted without a limit and cut to 64 bits at the end. */
    private static long hash(long... numbers) {
        BigInteger h = BigInteger.valueOf(1716);
        for (long number : numbers) {
            h = h.multiply(BigInteger.valueOf(31)).add(BigInteger.valueOf(number));
        }
        return h.longValue();
    }

    private void digest() {
        s.says("Computes a hash value.");
        s.answers("digest() of a new object", x -> x.digest(), hash(0, 0, 0, 1, 0, 0, 0, 0, 0, 0, NONE));
        s.says("It begins with h = 1716; for each of the following numbers, in this order, h becomes 31 * h "
                + "plus the number, in long arithmetic with overflow:");
        long[] many = new long[8 + 96];
        many[3] = 32;
        many[5] = 34;
        many[6] = 1;
        for (int e = 0; e < 32; e++) {
            many[8 + 3 * e] = e == 0 ? 0 : 1;
            many[8 + 3 * e + 2] = e == 0 ? NONE : 0;
        }
        s.with(() -> Checks.made(Setups.STAR));
        s.answers("digest() of a full tree", x -> x.digest(), hash(many));
        s.says("the results of told(0) to told(6); why();");
        TwigMatches x = Setups.eightKept();
        x.told(7);
        x.fits(-1, 0);
        x.back();
        x.drops(0);
        x.builds();
        for (int k = 0; k < 121; k++) {
            x.type('a');
        }
        s.due("digest()", x.digest(), hash(2, 1, 1, 1, 0, 120, 7, 1, 0, 8, NONE));
        s.due("digest() again, which counts nothing", x.digest(), hash(2, 1, 1, 1, 0, 120, 7, 1, 0, 8, NONE));
        s.says("for each element its tag, its value and its parent (NONE for the root);");
        s.with(() -> Checks.made("f9(e(d1)c)"));
        s.answers("digest() of four elements", y -> y.digest(), hash(0, 0, 0, 4, 0, 10, 1, 0,
                5, 9, NONE, 4, 0, 0, 3, 1, 1, 2, 0, 0));
        s.says("for each twig that exists, in ascending order, the number of its nodes, for each of its "
                + "nodes the results of node() for 0 to 4, and the number of its matches.");
        s.with(() -> {
            TwigMatches y = new TwigMatches();
            Checks.twig(y, 3, "*(~b<2;/c)");
            Checks.twig(y, 2, "d");
            Checks.twig(y, 0, "a=0");
            y.forgets(2);
            return y;
        });
        s.answers("digest() of twigs 0 and 3", y -> y.digest(), hash(0, 0, 0, 1, 9, 3, 4, 0, 0, 0, NONE,
                1, 0, 1, 0, 0, NONE, 1,
                3, 6, 1023, 0, 0, NONE, 1, 3, 2, 0, 0, 2, 1023, 1, 1, 0, 0));
        s.with(() -> Checks.made(Setups.STAR, "*(~*~*~*~*~*)"));
        long[] more = java.util.Arrays.copyOf(many, many.length + 32);
        long[] twig = {6, 6, 1023, 0, 0, NONE, 6, 1023, 2, 0, 0, 6, 1023, 2, 0, 0,
            6, 1023, 2, 0, 0, 6, 1023, 2, 0, 0, 6, 1023, 2, 0, 0, 28629151L};
        System.arraycopy(twig, 0, more, many.length, 32);
        more[4] = 1;
        more[5] = 13;
        more[6] = 2;
        s.answers("digest() with many matches", y -> y.digest(), hash(more));
        s.says("Returns h.");
        s.answers("digest() of a new object", y -> y.digest(), hash(0, 0, 0, 1, 0, 0, 0, 0, 0, 0, NONE));
    }
}
