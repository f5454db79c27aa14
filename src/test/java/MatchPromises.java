/** Promises 13 to 20, sentence by sentence: matches and path assignments. */
final class MatchPromises {
    private static final int NONE = TwigMatches.NONE, BAD = TwigMatches.BAD, NO = TwigMatches.NO;
    private static final int MIN = Integer.MIN_VALUE, MAX = Integer.MAX_VALUE;
    private static final int[] NO_TWIG = {-1, 4, MIN, MAX};
    /** Numbers that no element of a tree with eight elements has. */
    private static final int[] NO_ELEMENT = {-1, 8, 31, 32, MIN, MAX};
    /** A chain of nine levels, and 23 elements on the tenth one. */
    private static final String BRUSH = "a(a(a(a(a(a(a(a(a(" + "a".repeat(23) + ")))))))))";
    private final Sentences s;

    MatchPromises(Sentences s) {
        this.s = s;
    }

    void all() {
        s.promise(13);
        matches();
        s.promise(14);
        match();
        matchRefused();
        s.promise(15);
        place();
        placeRefused();
        s.promise(16);
        fits();
        s.promise(17);
        found();
        s.promise(18);
        part();
        s.promise(19);
        ways();
        s.promise(20);
        less();
    }

    /** A root with 31 children: five free branches, and five in order. */
    private static TwigMatches wide() {
        return Checks.made(Setups.STAR, "*(/*/*/*/*/*)", "*(/*;/*;/*;/*;/*)");
    }

    private static TwigMatches four() {
        return Checks.made("a(bc)", "a", "a(/b)", "c", "d");
    }

    private void matches() {
        s.says("Counts the matches of a twig.");
        s.with(Setups::usual);
        s.answers("matches(0)", x -> x.matches(0), 9);
        s.answers("matches(1)", x -> x.matches(1), 5);
        s.answers("matches(2)", x -> x.matches(2), 3);
        s.says("the twig, 0 to 3");
        s.with(MatchPromises::four);
        s.answers("matches(0)", x -> x.matches(0), 1);
        s.answers("matches(3)", x -> x.matches(3), 0);
        s.says("Returns the number of matches;");
        s.with(MatchPromises::wide);
        s.answers("as many as 31 to the fifth", x -> x.matches(0), 28629151L);
        s.answers("as many as ways to take 5 of 31", x -> x.matches(1), 169911);
        long most = 0;
        for (long below = 23; below <= 31; below++) {
            most += below * below * below * below * below;
        }
        s.with(() -> Checks.made(BRUSH, "a(~a~a~a~a~a)"));
        s.answers("in a chain of nine with 23 more", x -> x.matches(0), most);
        s.with(() -> Checks.made("a", "*", "b", "a(~*)", "a>0"));
        s.answers("in one element, of *", x -> x.matches(0), 1);
        s.answers("in one element, of b", x -> x.matches(1), 0);
        s.answers("in one element, of a(~*)", x -> x.matches(2), 0);
        s.answers("in one element, of a>0", x -> x.matches(3), 0);
        s.says("BAD if i is out of range;");
        s.with(Setups::usual);
        for (int i : NO_TWIG) {
            s.refuses("matches(" + i + ")", x -> x.matches(i), BAD);
        }
        s.says("NO if the twig does not exist.");
        s.refuses("matches(0) of a new object", x -> x.matches(0), NO);
        s.with(Setups::usual);
        s.refuses("matches(3)", x -> x.matches(3), NO);
    }

    private void match() {
        s.says("Returns an element of a match.");
        s.with(Setups::usual);
        int[][] want = {{0, 1, 6}, {0, 1, 7}, {0, 3, 7}, {0, 5, 6}, {0, 5, 7}};
        for (int k = 0; k < 15; k++) {
            int j = k / 3;
            int q = k % 3;
            s.answers("match(1, " + j + ", " + q + ")", x -> x.match(1, j, q), want[j][q]);
        }
        s.says("the twig, 0 to 3");
        s.with(MatchPromises::four);
        s.answers("match(0, 0, 0)", x -> x.match(0, 0, 0), 0);
        s.answers("match(2, 0, 0)", x -> x.match(2, 0, 0), 2);
        for (int i : NO_TWIG) {
            s.refuses("match(" + i + ", 0, 0)", x -> x.match(i, 0, 0), BAD);
        }
        s.says("the number of the match, 0 or more");
        s.with(Setups::usual);
        s.answers("match(0, 0, 2), the first one", x -> x.match(0, 0, 2), 2);
        s.answers("match(0, 8, 1), the last one", x -> x.match(0, 8, 1), 5);
        s.refuses("match(0, -1, 0)", x -> x.match(0, -1, 0), BAD);
        s.refuses("match(0, least long, 0)", x -> x.match(0, Long.MIN_VALUE, 0), BAD);
        s.refuses("match(0, -2^32, 0)", x -> x.match(0, -1L << 32, 0), BAD);
        s.says("the node, 0 or more");
        s.with(Setups::usual);
        s.refuses("match(0, 0, -1)", x -> x.match(0, 0, -1), BAD);
        s.refuses("match(0, 0, MIN)", x -> x.match(0, 0, MIN), BAD);
        s.with(MatchPromises::wide);
        s.answers("node 5 of the last match", x -> x.match(0, 28629150L, 5), 31);
        s.answers("node 5 of the last match in order", x -> x.match(1, 169910, 5), 31);
    }

    private void matchRefused() {
        s.says("Returns the element of the node in this match;");
        s.with(MatchPromises::wide);
        for (int k = 0; k < 6; k++) {
            int q = k;
            s.answers("first match, node " + q, x -> x.match(0, 0, q), q == 0 ? 0 : 1);
            s.answers("last match, node " + q, x -> x.match(0, 28629150L, q), q == 0 ? 0 : 31);
            s.answers("first match in order, node " + q, x -> x.match(1, 0, q), q);
            s.answers("last match in order, node " + q, x -> x.match(1, 169910, q), q == 0 ? 0 : 26 + q);
        }
        s.says("NONE if there are not so many matches;");
        s.with(Setups::usual);
        s.answers("match(0, 9, 0) of nine", x -> x.match(0, 9, 0), NONE);
        s.answers("match(0, 2^32, 0)", x -> x.match(0, 1L << 32, 0), NONE);
        s.answers("match(0, greatest long, 2)", x -> x.match(0, Long.MAX_VALUE, 2), NONE);
        s.with(MatchPromises::wide);
        s.answers("one behind the last", x -> x.match(0, 28629151L, 5), NONE);
        s.with(MatchPromises::four);
        s.answers("match(3, 0, 0) of no matches", x -> x.match(3, 0, 0), NONE);
        s.says("BAD if an argument is out of range;");
        s.refuses("match(4, -1, -1)", x -> x.match(4, -1, -1), BAD);
        s.refuses("match(0, -1, 0) of a new object", x -> x.match(0, -1, 0), BAD);
        s.refuses("match(0, 0, -1) of a new object", x -> x.match(0, 0, -1), BAD);
        s.says("NO if the twig does not exist or has no such node.");
        s.refuses("match(0, 0, 0) of a new object", x -> x.match(0, 0, 0), NO);
        s.with(Setups::usual);
        s.refuses("match(3, 0, 0)", x -> x.match(3, 0, 0), NO);
        s.refuses("match(0, 0, 3)", x -> x.match(0, 0, 3), NO);
        s.refuses("match(0, 0, MAX)", x -> x.match(0, 0, MAX), NO);
        s.refuses("match(2, 0, 1)", x -> x.match(2, 0, 1), NO);
        s.refuses("match(0, 9, 3), also not so many", x -> x.match(0, 9, 3), NO);
        s.with(MatchPromises::wide);
        s.refuses("match(0, 0, 6)", x -> x.match(0, 0, 6), NO);
    }

    private static long told(int... elements) {
        long told = 0;
        for (int e : elements) {
            told = 32 * told + e;
        }
        return told;
    }

    private void place() {
        s.says("Returns the number of a given match.");
        s.with(Setups::usual);
        s.answers("place of 0 1 2", x -> x.place(0, told(0, 1, 2)), 0);
        s.answers("place of 0 5 7", x -> x.place(0, told(0, 5, 7)), 8);
        s.answers("place of 0 3 7 in order", x -> x.place(1, told(0, 3, 7)), 2);
        s.says("the twig, 0 to 3");
        s.with(MatchPromises::four);
        s.answers("place(0, 0)", x -> x.place(0, 0), 0);
        s.answers("place(2, 2)", x -> x.place(2, 2), 0);
        s.answers("place(3, 0)", x -> x.place(3, 0), NONE);
        for (int i : NO_TWIG) {
            s.refuses("place(" + i + ", 0)", x -> x.place(i, 0), BAD);
        }
        s.says("the match, as a number with one digit to the base 32 for each node, its element; that of "
                + "node 0 is the most significant one; 0 or more");
        s.with(() -> Checks.made("a(b(a(b)))", "a(~b)", "*"));
        s.answers("place of 0 1", x -> x.place(0, 1), 0);
        s.answers("place of 0 3", x -> x.place(0, 3), 1);
        s.answers("place of 2 3", x -> x.place(0, 67), 2);
        s.answers("place of 3 2, the wrong way round", x -> x.place(0, 98), NONE);
        s.answers("place of the single digit 3", x -> x.place(1, 3), 3);
        s.refuses("place(0, -1)", x -> x.place(0, -1), BAD);
        s.refuses("place(0, least long)", x -> x.place(0, Long.MIN_VALUE), BAD);
        s.refuses("place(0, -2^32 + 1)", x -> x.place(0, (-1L << 32) + 1), BAD);
    }

    private void placeRefused() {
        s.says("Returns the number of the match;");
        s.with(MatchPromises::wide);
        s.answers("place of the first one", x -> x.place(0, told(0, 1, 1, 1, 1, 1)), 0);
        s.answers("place of the second one", x -> x.place(0, told(0, 1, 1, 1, 1, 2)), 1);
        s.answers("place of the last one", x -> x.place(0, told(0, 31, 31, 31, 31, 31)), 28629150L);
        s.answers("place of the last one in order", x -> x.place(1, told(0, 27, 28, 29, 30, 31)), 169910);
        s.with(() -> Checks.made(Setups.STAR, "*"));
        s.answers("place of element 31 alone", x -> x.place(0, 31), 31);
        s.says("NONE if there is no such match;");
        s.with(MatchPromises::wide);
        s.answers("the root in place of a child", x -> x.place(0, told(0, 1, 1, 1, 1, 0)), NONE);
        s.answers("a child in place of the root", x -> x.place(0, told(1, 1, 1, 1, 1, 1)), NONE);
        s.answers("out of order", x -> x.place(1, told(0, 1, 2, 3, 5, 5)), NONE);
        s.answers("0", x -> x.place(0, 0), NONE);
        s.answers("all digits 31", x -> x.place(0, (1L << 30) - 1), NONE);
        s.answers("a digit more", x -> x.place(0, told(1, 0, 1, 1, 1, 1, 1)), NONE);
        s.answers("a digit beyond 32 bits", x -> x.place(0, (1L << 35) + told(0, 1, 1, 1, 1, 1)), NONE);
        s.answers("the greatest long", x -> x.place(0, Long.MAX_VALUE), NONE);
        s.with(Setups::usual);
        s.answers("a digit that is no element", x -> x.place(0, told(0, 1, 8)), NONE);
        s.answers("a first digit that is no element", x -> x.place(2, 31), NONE);
        s.answers("an element that does not fit", x -> x.place(0, told(0, 2, 2)), NONE);
        s.answers("two digits for one node", x -> x.place(2, 32 + 3), NONE);
        s.says("BAD if an argument is out of range;");
        s.refuses("place(4, 0) of a new object", x -> x.place(4, 0), BAD);
        s.refuses("place(0, -1) of a new object", x -> x.place(0, -1), BAD);
        s.says("NO if the twig does not exist.");
        s.refuses("place(0, 0) of a new object", x -> x.place(0, 0), NO);
        s.with(Setups::usual);
        s.refuses("place(3, 34)", x -> x.place(3, 34), NO);
        s.refuses("place(3, greatest long)", x -> x.place(3, Long.MAX_VALUE), NO);
    }

    // ---- elements in matches

    private interface Asked {
        int of(TwigMatches x, int i, int q);
    }

    /** fits() and found() refuse the same calls with 0. */
    private void zeroForBad(String name, Asked asked) {
        s.with(Setups::usual);
        for (int i : NO_TWIG) {
            s.refuses(name + "(" + i + ", 0)", x -> asked.of(x, i, 0), BAD, 0);
        }
        s.refuses(name + "(0, -1)", x -> asked.of(x, 0, -1), BAD, 0);
        s.refuses(name + "(0, MIN)", x -> asked.of(x, 0, MIN), BAD, 0);
        s.refuses(name + "(3, -1), no twig", x -> asked.of(x, 3, -1), BAD, 0);
    }

    private void zeroForNo(String name, Asked asked) {
        s.with(Setups::usual);
        s.refuses(name + "(3, 0)", x -> asked.of(x, 3, 0), NO, 0);
        s.refuses(name + "(3, MAX)", x -> asked.of(x, 3, MAX), NO, 0);
        s.refuses(name + "(0, 3)", x -> asked.of(x, 0, 3), NO, 0);
        s.refuses(name + "(0, MAX)", x -> asked.of(x, 0, MAX), NO, 0);
        s.refuses(name + "(2, 1)", x -> asked.of(x, 2, 1), NO, 0);
        s.with(TwigMatches::new);
        s.refuses(name + "(0, 0) of a new object", x -> asked.of(x, 0, 0), NO, 0);
    }

    private void fits() {
        s.says("Returns the elements that fit a node.");
        s.with(Setups::usual);
        s.answers("fits(0, 0)", x -> x.fits(0, 0), Checks.set(0, 4));
        s.answers("fits(0, 1)", x -> x.fits(0, 1), Checks.set(1, 3, 5));
        s.answers("fits(0, 2)", x -> x.fits(0, 2), Checks.set(2, 6, 7));
        s.says("the twig, 0 to 3");
        s.with(MatchPromises::four);
        s.answers("fits(0, 0)", x -> x.fits(0, 0), 1);
        s.answers("fits(2, 0)", x -> x.fits(2, 0), 4);
        s.says("the node, 0 or more");
        s.with(MatchPromises::four);
        s.answers("fits(1, 0)", x -> x.fits(1, 0), 1);
        s.answers("fits(1, 1)", x -> x.fits(1, 1), 2);
        s.says("Returns the set of these elements;");
        s.with(MatchPromises::four);
        s.answers("fits of no element is no error", x -> x.fits(3, 0), 0);
        s.with(MatchPromises::wide);
        s.answers("fits of all 32 elements", x -> x.fits(0, 5), -1);
        s.says("0 (in place of BAD, which is counted) if an argument is out of range;");
        zeroForBad("fits", (x, i, q) -> x.fits(i, q));
        s.says("0 (in place of NO, which is counted) if the twig does not exist or has no such node.");
        zeroForNo("fits", (x, i, q) -> x.fits(i, q));
    }

    private void found() {
        s.says("Returns the elements that a node has in at least one match.");
        s.with(Setups::usual);
        s.answers("found(0, 0)", x -> x.found(0, 0), Checks.set(0));
        s.answers("found(1, 1)", x -> x.found(1, 1), Checks.set(1, 3, 5));
        s.answers("found(1, 2)", x -> x.found(1, 2), Checks.set(6, 7));
        // Each a has its own b; the c in front of it is not found because of the b of another a.
        s.with(() -> Checks.made("a(ba(cbc)c)", "a(/b;/c)"));
        s.answers("found(0, 0) with two roots", x -> x.found(0, 0), Checks.set(0, 2));
        s.answers("found(0, 1) with two roots", x -> x.found(0, 1), Checks.set(1, 4));
        s.answers("found(0, 2) with two roots", x -> x.found(0, 2), Checks.set(5, 6));
        // Nor because of a b that is below the a, but not its child.
        s.with(() -> Checks.made("a(d(b)cbc)", "a(/b;/c)"));
        s.answers("found(0, 2) behind a lower b", x -> x.found(0, 2), Checks.set(5));
        TwigMatches again = Checks.made("a(ba(cbc)c)", "a(/b;/c)");
        s.due("found before sets", again.found(0, 2), Checks.set(5, 6));
        again.sets(1, 3, 0);
        s.due("found after sets", again.found(0, 2), Checks.set(5));
        s.says("the twig, 0 to 3");
        s.with(MatchPromises::four);
        s.answers("found(0, 0)", x -> x.found(0, 0), 1);
        s.answers("found(2, 0)", x -> x.found(2, 0), 4);
        s.says("the node, 0 or more");
        s.with(MatchPromises::wide);
        s.answers("found(1, 1), first branch", x -> x.found(1, 1), (1 << 28) - 2);
        s.answers("found(1, 5), last branch", x -> x.found(1, 5), -32);
        s.says("Returns the set of these elements;");
        s.with(MatchPromises::four);
        s.answers("found without a match is no error", x -> x.found(3, 0), 0);
        s.with(() -> Checks.made(Setups.STAR, "*", "*(/c)"));
        s.answers("found of all 32 elements", x -> x.found(0, 0), -1);
        s.answers("found where a branch has no element", x -> x.found(1, 0), 0);
        s.says("0 in place of BAD and NO, as in fits().");
        zeroForBad("found", (x, i, q) -> x.found(i, q));
        zeroForNo("found", (x, i, q) -> x.found(i, q));
    }

    private void part() {
        s.says("Counts the matches in which a node has a given element.");
        s.with(Setups::usual);
        int[][] want = {{5, 0, 0, 0, 0, 0, 0, 0}, {0, 2, 0, 1, 0, 2, 0, 0}, {0, 0, 0, 0, 0, 0, 2, 3}};
        for (int k = 0; k < 24; k++) {
            int q = k / 8;
            int e = k % 8;
            s.answers("part(1, " + q + ", " + e + ")", x -> x.part(1, q, e), want[q][e]);
        }
        s.says("the twig, 0 to 3");
        s.with(MatchPromises::four);
        s.answers("part(0, 0, 0)", x -> x.part(0, 0, 0), 1);
        s.answers("part(3, 0, 0)", x -> x.part(3, 0, 0), 0);
        for (int i : NO_TWIG) {
            s.refuses("part(" + i + ", 0, 0)", x -> x.part(i, 0, 0), BAD);
        }
        s.says("the node, 0 or more");
        s.with(Setups::usual);
        s.refuses("part(0, -1, 0)", x -> x.part(0, -1, 0), BAD);
        s.refuses("part(0, MIN, 0)", x -> x.part(0, MIN, 0), BAD);
        s.says("the element");
        s.with(Setups::usual);
        for (int e : NO_ELEMENT) {
            s.refuses("part(0, 0, " + e + ")", x -> x.part(0, 0, e), BAD);
        }
        s.says("Returns the number of these matches;");
        s.with(MatchPromises::wide);
        s.answers("part(0, 5, 31)", x -> x.part(0, 5, 31), 923521);
        s.answers("part(0, 0, 0)", x -> x.part(0, 0, 0), 28629151L);
        s.answers("part(0, 0, 31)", x -> x.part(0, 0, 31), 0);
        s.answers("part(1, 5, 5)", x -> x.part(1, 5, 5), 1);
        s.answers("part(1, 5, 4)", x -> x.part(1, 5, 4), 0);
        s.says("BAD if an argument is out of range or there is no such element;");
        s.refuses("part(0, 0, 1) of a new object", x -> x.part(0, 0, 1), BAD);
        s.refuses("part(4, -1, -1)", x -> x.part(4, -1, -1), BAD);
        s.says("NO if the twig does not exist or has no such node.");
        s.refuses("part(0, 0, 0) of a new object", x -> x.part(0, 0, 0), NO);
        s.with(Setups::usual);
        s.refuses("part(3, 0, 7)", x -> x.part(3, 0, 7), NO);
        s.refuses("part(0, 3, 0)", x -> x.part(0, 3, 0), NO);
        s.refuses("part(0, MAX, 0)", x -> x.part(0, MAX, 0), NO);
        s.refuses("part(2, 1, 0)", x -> x.part(2, 1, 0), NO);
    }

    private void ways() {
        s.says("Counts the path assignments of a node.");
        s.with(Setups::usual);
        s.answers("ways(0, 0, 0)", x -> x.ways(0, 0, 0), 2);
        s.answers("ways(0, 1, 0)", x -> x.ways(0, 1, 0), 4);
        s.answers("ways(0, 2, 0)", x -> x.ways(0, 2, 0), 3);
        s.with(() -> Checks.made("a(ba(cbc))", "a(~b;~c)"));
        s.answers("ways(0, 2, 0) with two roots", x -> x.ways(0, 2, 0), 4);
        s.answers("ways(0, 2, 1) with two roots", x -> x.ways(0, 2, 1), 3);
        TwigMatches again = Setups.usual();
        for (int k = 0; k < 3; k++) {
            s.due("ways(0, 1, 0), asked once more", again.ways(0, 1, 0), 4);
            s.due("ways(0, 1, 1), asked once more", again.ways(0, 1, 1), 3);
            s.due("ways(1, 2, 1), asked once more", again.ways(1, 2, 1), 2);
        }
        s.says("the twig, 0 to 3");
        s.with(MatchPromises::four);
        s.answers("ways(0, 0, 0)", x -> x.ways(0, 0, 0), 1);
        s.answers("ways(3, 0, 0)", x -> x.ways(3, 0, 0), 0);
        for (int i : NO_TWIG) {
            s.refuses("ways(" + i + ", 0, 0)", x -> x.ways(i, 0, 0), BAD);
        }
        s.says("the node, 0 or more");
        s.with(Setups::usual);
        s.refuses("ways(0, -1, 0)", x -> x.ways(0, -1, 0), BAD);
        s.refuses("ways(0, MIN, 1)", x -> x.ways(0, MIN, 1), BAD);
        s.says("0 for all path assignments, 1 for those that are used");
        s.with(Setups::usual);
        s.answers("ways(0, 1, 1)", x -> x.ways(0, 1, 1), 3);
        s.answers("ways(1, 2, 0)", x -> x.ways(1, 2, 0), 3);
        s.answers("ways(1, 2, 1)", x -> x.ways(1, 2, 1), 2);
        for (int what : new int[] {-1, 2, MIN, MAX}) {
            s.refuses("ways(0, 0, " + what + ")", x -> x.ways(0, 0, what), BAD);
        }
        s.says("Returns the number;");
        s.with(() -> Checks.made(Setups.CHAIN, "*(~*(~*(~*(~*(~*)))))", "*(~*(~*(~c)))"));
        s.answers("as many as ways to take 6 of 10", x -> x.ways(0, 5, 0), 210);
        s.answers("all of them used", x -> x.ways(0, 5, 1), 210);
        s.answers("as many as ways to take 3 of 10", x -> x.ways(1, 2, 0), 120);
        s.answers("none of them used", x -> x.ways(1, 2, 1), 0);
        s.answers("to where nothing fits", x -> x.ways(1, 3, 0), 0);
        s.with(MatchPromises::wide);
        s.answers("to the last branch of five", x -> x.ways(1, 5, 0), 31);
        s.answers("to the last branch of five, used", x -> x.ways(1, 5, 1), 27);
        s.says("BAD if an argument is out of range;");
        s.refuses("ways(0, 0, 2) of a new object", x -> x.ways(0, 0, 2), BAD);
        s.refuses("ways(0, -1, 0) of a new object", x -> x.ways(0, -1, 0), BAD);
        s.says("NO if the twig does not exist or has no such node.");
        s.refuses("ways(0, 0, 0) of a new object", x -> x.ways(0, 0, 0), NO);
        s.with(Setups::usual);
        s.refuses("ways(3, 0, 1)", x -> x.ways(3, 0, 1), NO);
        s.refuses("ways(0, 3, 0)", x -> x.ways(0, 3, 0), NO);
        s.refuses("ways(0, MAX, 1)", x -> x.ways(0, MAX, 1), NO);
        s.refuses("ways(2, 1, 0)", x -> x.ways(2, 1, 0), NO);
    }

    private void less() {
        s.says("Tells how the number of matches of a twig would change if an element with everything below "
                + "it were removed.");
        s.with(Setups::usual);
        long[] want = {-5, -3, -7, -3, -3, -3, -3};
        for (int k = 1; k < 8; k++) {
            int e = k;
            s.answers("less(0, " + e + ")", x -> x.less(0, e), want[e - 1]);
            s.answers("less(0, " + e + ") and the number after drops", x -> {
                long less = x.less(0, e);
                x.drops(e);
                return x.matches(0) - less;
            }, 9);
        }
        TwigMatches same = Setups.usual();
        same.less(0, 1);
        s.due("what less changes", Sentences.look(same), Sentences.look(Setups.usual()));
        s.says("the twig, 0 to 3");
        s.with(MatchPromises::four);
        s.answers("less(1, 1)", x -> x.less(1, 1), -1);
        s.answers("less(3, 1)", x -> x.less(3, 1), 0);
        s.says("the element");
        s.with(MatchPromises::wide);
        s.answers("less(0, 31)", x -> x.less(0, 31), 24300000L - 28629151L);
        s.answers("less(1, 31)", x -> x.less(1, 31), 142506 - 169911);
        s.says("Returns the number of matches then minus the number of matches now, which is 0 or less;");
        s.with(MatchPromises::four);
        s.answers("less where nothing is lost", x -> x.less(1, 2), 0);
        s.answers("less where all is lost", x -> x.less(2, 2), -1);
        s.answers("less without matches", x -> x.less(3, 2), 0);
        s.says("BAD if i is out of range or there is no such element;");
        s.with(Setups::usual);
        for (int i : NO_TWIG) {
            s.refuses("less(" + i + ", 1)", x -> x.less(i, 1), BAD);
            s.refuses("less(" + i + ", 0)", x -> x.less(i, 0), BAD);
        }
        for (int e : NO_ELEMENT) {
            s.refuses("less(0, " + e + ")", x -> x.less(0, e), BAD);
            s.refuses("less(3, " + e + ")", x -> x.less(3, e), BAD);
        }
        s.says("NO if the twig does not exist or the element is the root.");
        s.with(Setups::usual);
        s.refuses("less(3, 1)", x -> x.less(3, 1), NO);
        s.refuses("less(0, 0)", x -> x.less(0, 0), NO);
        s.refuses("less(3, 0)", x -> x.less(3, 0), NO);
    }
}
