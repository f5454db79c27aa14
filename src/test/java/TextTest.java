/** Promises 21 to 26: texts, and what is read from them. */
public final class TextTest {
    private static final int NONE = TwigMatches.NONE, BAD = TwigMatches.BAD;
    private static final int NO = TwigMatches.NO, FULL = TwigMatches.FULL;
    private static final int MIN = Integer.MIN_VALUE, MAX = Integer.MAX_VALUE;
    private static final String CHAIN = "a(b(a(b(a(b(a(b(a(b)))))))))";
    private static final String MOST = "a(bbbbbbbbbbbbbbbbbbbbbbbbbbbbbbb)";
    private static final Checks c = new Checks("TextTest");

    public static void main(String[] args) {
        type();
        clear();
        builds();
        buildsFaults();
        twigs();
        twigsFaults();
        why();
        shownTree();
        shownTwig();
        shownNot();
        c.finish();
    }

    private static void type() {
        TwigMatches x = new TwigMatches();
        int[] wrong = {-1, 128, 200, MIN, MAX};
        for (int w : wrong) {
            c.due("type " + w, x.type(w), BAD);
        }
        for (int k = 0; k < 120; k++) {
            c.due("type " + k, x.type(k == 0 ? 0 : k == 1 ? 127 : 'a'), k + 1);
        }
        c.due("type 121st", x.type('a'), FULL);
        c.due("type 121st, bad", x.type(128), BAD);
        c.due("type length", x.told(5), 120);
        c.due("type bad count", x.told(0), wrong.length + 1);
        c.due("type full count", x.told(2), 1);
        c.due("type keeps nothing", x.told(6), 0);
    }

    private static void clear() {
        TwigMatches x = new TwigMatches();
        c.due("clear empty", x.clear(), 0);
        Checks.write(x, "abc");
        c.due("clear three", x.clear(), 3);
        c.due("clear again", x.clear(), 0);
        c.due("clear length", x.told(5), 0);
        c.due("type after clear", x.type('b'), 1);
        c.due("builds after clear", x.builds(), 1);
        c.due("builds after clear tree", Checks.tree(x), "b");
        c.due("clear keeps nothing", x.told(6), 1);
    }

    private static void build(String text, int want, String then) {
        TwigMatches x = Checks.made("f9(e8)", "a(/b)");
        c.due("builds " + text, Checks.build(x, text), want);
        c.due("builds " + text + " tree", Checks.tree(x), then);
        c.due("builds " + text + " kept", x.told(6), 3);
        c.due("builds " + text + " text stays", x.told(5), text.length());
        c.due("builds " + text + " twigs stay", Checks.shown(x, 0), "a(/b)");
        x.back();
        c.due("builds " + text + " back", Checks.tree(x), "f9(e8)");
        c.due("builds " + text + " text after back", x.told(5), text.length());
    }

    private static void builds() {
        build("a", 1, "a");
        build("f9", 1, "f9");
        build("b0", 1, "b");
        build("b0(c0)", 2, "b(c)");
        build("a(b)", 2, "a(b)");
        build("a1(b2(c3)d4(e5f6))", 6, "a1(b2(c3)d4(e5f6))");
        build(CHAIN, 10, CHAIN);
        build(MOST, 32, MOST);
        TwigMatches x = Checks.made("a(b(c)d(ef))");
        int[] parents = {NONE, 0, 1, 0, 3, 3};
        for (int e = 0; e < parents.length; e++) {
            c.due("builds parent " + e, x.element(e, 2), parents[e]);
        }
        x.builds();
        c.due("builds twice keeps twice", x.told(6), 2);
    }

    private static void buildFault(String text, int position, int reason) {
        TwigMatches x = Checks.made("f9(e8)");
        c.due("builds " + text, Checks.build(x, text), -10 - position);
        c.due("builds " + text + " why", x.why(), reason);
        c.due("builds " + text + " tree", Checks.tree(x), "f9(e8)");
        c.due("builds " + text + " kept", x.told(6), 1);
        c.due("builds " + text + " is no error", x.told(0) + x.told(1) + x.told(2), 0);
        c.due("builds " + text + " text stays", x.told(5), text.length());
    }

    private static void buildsFaults() {
        buildFault("", 0, 1);
        buildFault("1", 0, 1);
        buildFault("(a)", 0, 1);
        buildFault("g", 0, 1);
        buildFault("A", 0, 1);
        buildFault("*", 0, 1);
        buildFault("`", 0, 1);
        buildFault(" a", 0, 1);
        buildFault("a ", 1, 1);
        buildFault("ab", 1, 1);
        buildFault("a12", 2, 1);
        buildFault("a)", 1, 1);
        buildFault("a(", 2, 1);
        buildFault("a()", 2, 1);
        buildFault("a((b))", 2, 1);
        buildFault("a(1)", 2, 1);
        buildFault("a(b", 3, 1);
        buildFault("a(b1", 4, 1);
        buildFault("a(b(c)", 6, 1);
        buildFault("a(b)1", 4, 1);
        buildFault("a(b)(c)", 4, 1);
        buildFault("a(b(c)1)", 6, 1);
        buildFault("a(b(c)(d))", 6, 1);
        buildFault("a(b)c", 4, 1);
        buildFault("a(b))", 4, 1);
        buildFault("a(b/c)", 3, 1);
        buildFault("a(b:)", 3, 1);
        buildFault("a/", 1, 1);
        buildFault("a\0", 1, 1);
        buildFault("a(bbbbbbbbbbbbbbbbbbbbbbbbbbbbbbbb)", 33, 2);
        buildFault("a(bbbbbbbbbbbbbbbbbbbbbbbbbbbbbbb*)", 33, 1);
        buildFault("a(bbbbbbbbbbbbbbbbbbbbbbbbbbbbbbb(c))", 34, 2);
        buildFault("a(b(a(b(a(b(a(b(a(b(c))))))))))", 20, 3);
        buildFault("a(b(a(b(a(b(a(b(a(b(c", 20, 3);
        buildFault("a(b(a(b(a(b(a(b(a(b(", 20, 1);
        buildFault("a(b(a(b(a(b(a(b(a(b((", 20, 1);
        buildFault("a(b(a(b(a(b(a(b(a(b()", 20, 1);
        // The 32nd and the 33rd element on level 11: too many comes before too deep.
        String deep = "(a(b(a(b(a(b(a(b(b)";
        buildFault("a(" + "b".repeat(22) + deep, 41, 3);
        buildFault("a(" + "b".repeat(23) + deep, 42, 2);
    }

    private static void twig(String text, int want) {
        TwigMatches x = Checks.made("f9(e8)");
        c.due("twigs " + text, Checks.twig(x, 2, text), want);
        c.due("twigs " + text + " shown", Checks.shown(x, 2), text);
        c.due("twigs " + text + " nodes", x.nodes(2), want);
        c.due("twigs " + text + " exist", x.told(4), 4);
        c.due("twigs " + text + " kept", x.told(6), 2);
        c.due("twigs " + text + " text stays", x.told(5), text.length());
        c.due("twigs " + text + " tree stays", Checks.tree(x), "f9(e8)");
        x.back();
        c.due("twigs " + text + " back", x.nodes(2), 0);
    }

    private static void twigs() {
        twig("a", 1);
        twig("*", 1);
        twig("f=0", 1);
        twig("*<9", 1);
        twig("c>5(/d)", 2);
        twig("a(/b~c;/d;~e/f)", 6);
        twig("a(/b(/c;~d);/e(~f))", 6);
        twig("a(~b(~c(~d(~e(~f)))))", 6);
        twig("*(~*(/*;/*)/*=1;~*)", 6);
        c.due("twigs without the tests of the one read before",
                Checks.shown(Checks.made("a", "a=3(/b<2;/c>4)", "a(/b~c)"), 1), "a(/b~c)");
        TwigMatches again = Checks.made("a3(b4(c5))");
        Checks.build(again, "b(bb)");
        c.due("builds without the values of the one read before", Checks.tree(again), "b(bb)");
        TwigMatches x = Checks.made("a", "a(/b/c/d)", "b");
        c.due("twigs in place of another", Checks.twig(x, 0, "c(~d)"), 2);
        c.due("twigs in place of another shown", Checks.shown(x, 0), "c(~d)");
        c.due("twigs beside", Checks.shown(x, 1), "b");
        c.due("twigs bad", x.twigs(-1), BAD);
        c.due("twigs bad", x.twigs(4), BAD);
        c.due("twigs bad", x.twigs(MIN), BAD);
        c.due("twigs bad", x.twigs(MAX), BAD);
        x.clear();
        c.due("twigs bad with a fault", x.twigs(4), BAD);
        c.due("twigs bad is no fault", x.why(), 0);
        c.due("twigs bad count", x.told(0), 5);
        c.due("twigs kept", x.told(6), 4);
        x.back();
        c.due("twigs back", Checks.shown(x, 0), "a(/b/c/d)");
    }

    private static void twigFault(String text, int position, int reason) {
        TwigMatches x = Checks.made("a", "b(/c=3)");
        c.due("twigs " + text, Checks.twig(x, 0, text), -10 - position);
        c.due("twigs " + text + " why", x.why(), reason);
        c.due("twigs " + text + " shown", Checks.shown(x, 0), "b(/c=3)");
        c.due("twigs " + text + " kept", x.told(6), 2);
        c.due("twigs " + text + " is no error", x.told(0) + x.told(1) + x.told(2), 0);
        c.due("twigs " + text + " text stays", x.told(5), text.length());
    }

    private static void twigsFaults() {
        twigFault("", 0, 1);
        twigFault("g", 0, 1);
        twigFault("/a", 0, 1);
        twigFault("(", 0, 1);
        twigFault("a1", 1, 1);
        twigFault("a=", 2, 1);
        twigFault("a==", 2, 1);
        twigFault("a=a", 2, 1);
        twigFault("a=12", 3, 1);
        twigFault("a=1=2", 3, 1);
        twigFault("a<:", 2, 1);
        twigFault("a>/", 2, 1);
        twigFault("ab", 1, 1);
        twigFault("a*", 1, 1);
        twigFault("a/b", 1, 1);
        twigFault("a;", 1, 1);
        twigFault("a)", 1, 1);
        twigFault("a(", 2, 1);
        twigFault("a()", 2, 1);
        twigFault("a(b)", 2, 1);
        twigFault("a(*)", 2, 1);
        twigFault("a(;/b)", 2, 1);
        twigFault("a((", 2, 1);
        twigFault("a(/)", 3, 1);
        twigFault("a(//b)", 3, 1);
        twigFault("a(/b", 4, 1);
        twigFault("a(/b;)", 5, 1);
        twigFault("a(/b;;/c)", 5, 1);
        twigFault("a(/b;c)", 5, 1);
        twigFault("a(/b/;c)", 5, 1);
        twigFault("a(/b(;/c))", 5, 1);
        twigFault("a(/b(/c)=1)", 8, 1);
        twigFault("a(/b(/c)(/d))", 8, 1);
        twigFault("a(/b(/c)", 8, 1);
        twigFault("a(/b)/c", 5, 1);
        twigFault("a(/b);/c", 5, 1);
        twigFault("a(/b))", 5, 1);
        twigFault("a(/b)=1", 5, 1);
        twigFault("a(/b c)", 4, 1);
        twigFault("a(/b/b/b/b/b/b)", 13, 2);
        twigFault("a(/b/b/b/b/b~*)", 13, 2);
        twigFault("a(/b/b/b/b/b;~*)", 14, 2);
        twigFault("a(/b/b/b/b/b/g)", 13, 1);
        twigFault("a(/b/b/b/b/b/", 13, 1);
        twigFault("a(~b(~c(~d(~e(~f(~a))))))", 18, 2);
        twigFault("a(~b(~c(~d(~e(~f(", 17, 1);
    }

    private static void why() {
        TwigMatches x = new TwigMatches();
        c.due("why at first", x.why(), 0);
        Checks.build(x, "a(bbbbbbbbbbbbbbbbbbbbbbbbbbbbbbbb)");
        c.due("why 2", x.why(), 2);
        Checks.build(x, "a(b)");
        c.due("why stays after a good text", x.why(), 2);
        x.back();
        c.due("why stays after back", x.why(), 2);
        Checks.twig(x, 0, "a(");
        c.due("why 1", x.why(), 1);
        x.matches(0);
        c.due("why stays after an error", x.why(), 1);
        Checks.build(x, "a(b(a(b(a(b(a(b(a(b(c)");
        c.due("why 3", x.why(), 3);
    }

    private static void shownTree() {
        TwigMatches x = Checks.made("a0(b9(c0)d)");
        String want = "a(b9(c)d)";
        for (int k = 0; k < want.length(); k++) {
            c.due("shown tree " + k, x.shown(NONE, k), want.charAt(k));
        }
        c.due("shown tree end", x.shown(NONE, want.length()), NONE);
        c.due("shown tree MAX", x.shown(NONE, MAX), NONE);
        x.adds(2, 0, 5, 1);
        x.sets(0, 1, 7);
        c.due("shown changed tree", Checks.tree(x), "b7(b9(c(f1))d)");
        // The text of a tree can be longer than what can be typed.
        TwigMatches y = Checks.made("a(b(a(b(a(b(a(b(a(b)))))))))");
        y.sets(0, 0, 1);
        for (int e = 1; e < 10; e++) {
            y.sets(e, 1, 2);
        }
        for (int k = 0; k < 11; k++) {
            int e = y.adds(0, y.element(0, 6), 2, 3);
            y.adds(e, 0, 3, 4);
        }
        c.due("shown long tree", Checks.tree(y), "a1(b2(b2(b2(b2(b2(b2(b2(b2(b2))))))))"
                + "c3(d4)c3(d4)c3(d4)c3(d4)c3(d4)c3(d4)c3(d4)c3(d4)c3(d4)c3(d4)c3(d4))");
    }

    private static void shownTwig() {
        TwigMatches x = Checks.made("a", "a(/b>9;~*<0(~c=5))");
        String want = "a(/b>9;~*<0(~c=5))";
        for (int k = 0; k < want.length(); k++) {
            c.due("shown twig " + k, x.shown(0, k), want.charAt(k));
        }
        c.due("shown twig end", x.shown(0, want.length()), NONE);
        c.due("shown twig MAX", x.shown(0, MAX), NONE);
        c.due("shown same test", Checks.shown(Checks.made("a", "a<1"), 0), "a<1");
        c.due("shown same test", Checks.shown(Checks.made("a", "a=0"), 0), "a=0");
    }

    private static void shownNot() {
        TwigMatches x = Checks.made("a", "a");
        int[][] bad = {{-2, 0}, {4, 0}, {-1, -1}, {0, -1}, {3, -1}, {MIN, 0}, {MAX, 0}, {-1, MIN}};
        for (int[] b : bad) {
            c.due("shown bad", x.shown(b[0], b[1]), BAD);
        }
        int[][] no = {{1, 0}, {3, 0}, {3, MAX}};
        for (int[] n : no) {
            c.due("shown no", x.shown(n[0], n[1]), NO);
        }
        c.due("shown none", x.shown(-1, 1), NONE);
        c.due("shown none", x.shown(0, 1), NONE);
        c.due("shown bad count", x.told(0), bad.length);
        c.due("shown no count", x.told(1), no.length);
    }
}
