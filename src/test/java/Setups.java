/** Objects that the tests of sentences begin with. */
final class Setups {
    /** Ten levels, one element on each. */
    static final String CHAIN = "a(b(a(b(a(b(a(b(a(b)))))))))";
    /** A root with 31 children. */
    static final String STAR = "a(bbbbbbbbbbbbbbbbbbbbbbbbbbbbbbb)";
    /** Ten levels and 32 elements: a chain of 9 below the root, then 22 children more. */
    static final String BROOM = "a(b(a(b(a(b(a(b(a(b))))))))cccccccccccccccccccccc)";
    /** The longest document that there is, with 32 elements, 10 levels and 120 bytes. */
    static final String LONGEST = "a1(b2(c3(d4(e5(f6(a7(b8(c9(d1))))))))"
            + "b1(c1(d1(e1(f1(a1(b1(c1(d1))))))))b2(c2(d2(e2(f2(a2(b2(c2(d2))))))))b3(c3(d3(e3))))";

    private Setups() {
    }

    /** Eight elements; twig 0 with three nodes, twig 1 with an ordered one, twig 2 with one node. */
    static TwigMatches usual() {
        return Checks.made("a(b(c)b(a(b2)c)c3)", "a(~b~c)", "a(~b;~c)", "b");
    }

    static TwigMatches chain() {
        return Checks.made(CHAIN, "a(~b)");
    }

    static TwigMatches star() {
        return Checks.made(STAR, "*(/b)");
    }

    static TwigMatches broom() {
        return Checks.made(BROOM, "*(/c)");
    }

    /** The text has 120 bytes and can be read as a document. */
    static TwigMatches longText() {
        TwigMatches x = Checks.made("a(b)", "a(/b)");
        Checks.write(x, LONGEST);
        return x;
    }

    /** Eight states are kept: values 1 to 8 of the root; its value is 9. */
    static TwigMatches eightKept() {
        TwigMatches x = new TwigMatches();
        for (int value = 1; value <= 9; value++) {
            x.sets(0, 0, value);
        }
        return x;
    }
}
