/** The section "Description" from the texts on: TEXTS and STATES. */
final class TextSentences {
    private static final int NONE = TwigMatches.NONE, BAD = TwigMatches.BAD;
    private static final int NO = TwigMatches.NO, FULL = TwigMatches.FULL;
    private static final String LETTERS = "abcdef", DIGITS = "0123456789";
    private final Sentences s;

    TextSentences(Sentences s) {
        this.s = s;
    }

    void all() {
        s.section("Description");
        length();
        documents();
        twigs();
        branches();
        firstFault();
        tooMany();
        tooDeep();
        tooEarly();
        keptChanges();
        nothingKept();
        eightStates();
    }

    private void length() {
        s.says("The text has at most 120 bytes, without blanks;");
        TwigMatches x = new TwigMatches();
        for (int k = 1; k <= 120; k++) {
            s.due("type " + k, x.type('a'), k);
        }
        s.due("type 121", x.type('a'), FULL);
        s.due("length", x.told(5), 120);
        document("a (b)", 1, 1);
        document("a(b )", 3, 1);
        document(" a", 0, 1);
        twig("a (/b)", 1, 1);
        twig("a(/ b)", 3, 1);
        twig("a= 1", 2, 1);
        s.says("it is empty at first.");
        s.answers("told(5)", y -> y.told(5), 0);
        s.answers("clear()", y -> y.clear(), 0);
        s.answers("builds()", y -> y.builds(), -10);
        s.answers("twigs(0)", y -> y.twigs(0), -10);
    }

    // ---- what can stand where

    /** Which bytes can stand behind the beginning of a text; all other ones are its fault. */
    private void canStand(boolean isTwig, String beginning, String signs) {
        for (int c = 0; c < 128; c++) {
            TwigMatches x = new TwigMatches();
            Checks.write(x, beginning);
            x.type(c);
            int answer = isTwig ? x.twigs(0) : x.builds();
            int here = -10 - beginning.length();
            s.due("byte " + c + " behind '" + beginning + "' can stand", answer != here ? 1 : 0,
                    c > 0 && signs.indexOf(c) >= 0 ? 1 : 0);
            if (answer == here) {
                s.due("byte " + c + " behind '" + beginning + "', why", x.why(), 1);
            }
        }
    }

    private void whole(String text, int want, String then) {
        TwigMatches x = new TwigMatches();
        s.due("builds " + text, Checks.build(x, text), want);
        s.due("builds " + text + ", then shown", Checks.tree(x), then);
    }

    private void documents() {
        s.says("A document is a letter a to f, optionally a digit for the value (0 without it), and, if it "
                + "has children, an opening parenthesis, one or more documents, and a closing parenthesis.");
        canStand(false, "", LETTERS);
        canStand(false, "a", DIGITS + "(");
        canStand(false, "a1", "(");
        canStand(false, "a(", LETTERS);
        canStand(false, "a(b", LETTERS + DIGITS + "()");
        canStand(false, "a(b1", LETTERS + "()");
        canStand(false, "a(b(c)", LETTERS + ")");
        canStand(false, "a(b)", "");
        canStand(false, "a(b(c))", "");
        whole("a", 1, "a");
        whole("f9", 1, "f9");
        whole("f0", 1, "f");
        whole("a(b)", 2, "a(b)");
        whole("a1(b2c3(d4)e)", 5, "a1(b2c3(d4)e)");
    }

    private void twigs() {
        s.says("A twig is a letter a to f or *, optionally =, < or > and a digit, and, if it has branches, "
                + "an opening parenthesis, one or more branches, and a closing parenthesis.");
        canStand(true, "", LETTERS + "*");
        canStand(true, "a", "=<>(");
        canStand(true, "*", "=<>(");
        canStand(true, "a=", DIGITS);
        canStand(true, "a<", DIGITS);
        canStand(true, "a>", DIGITS);
        canStand(true, "a=1", "(");
        canStand(true, "a(/b)", "");
        canStand(true, "a(/b=1", "(/~;)");
        canStand(true, "a(/b(/c)", "/~;)");
        twigRead("a", 1);
        twigRead("*>9", 1);
        twigRead("f<0(/*)", 2);
        twigRead("a(/b(~c)/d)", 4);
    }

    private void twigRead(String text, int want) {
        TwigMatches x = new TwigMatches();
        s.due("twigs " + text, Checks.twig(x, 0, text), want);
        s.due("twigs " + text + ", then shown", Checks.shown(x, 0), text);
    }

    private void branches() {
        s.says("A branch is / or ~ and a twig;");
        canStand(true, "a(", "/~");
        canStand(true, "a(/", LETTERS + "*");
        canStand(true, "a(~", LETTERS + "*");
        canStand(true, "a(/b/", LETTERS + "*");
        s.says("from the second branch of a node on it can have a semicolon in front, which means that it "
                + "is ordered.");
        canStand(true, "a(/b", "=<>(/~;)");
        canStand(true, "a(/b;", "/~");
        canStand(true, "a(/b;/", LETTERS + "*");
        canStand(true, "a(/b(", "/~");
        twig("a(;/b)", 2, 1);
        twig("a(/b;/c(;/d))", 8, 1);
        TwigMatches x = Checks.made("a", "a(/b;/c/d(~e;~f))");
        for (int q = 0; q < 6; q++) {
            s.due("node " + q + " is ordered", x.node(0, q, 3), q == 2 || q == 5 ? 1 : 0);
        }
    }

    // ---- faults

    private void document(String text, int position, int reason) {
        fault(text, position, reason, false);
    }

    private void twig(String text, int position, int reason) {
        fault(text, position, reason, true);
    }

    private void fault(String text, int position, int reason, boolean isTwig) {
        TwigMatches x = new TwigMatches();
        Checks.write(x, text);
        s.due((isTwig ? "twigs " : "builds ") + text, isTwig ? x.twigs(0) : x.builds(), -10 - position);
        s.due((isTwig ? "twigs " : "builds ") + text + ", why", x.why(), reason);
    }

    private void firstFault() {
        s.says("The fault of a text has a position, from 0, and a reason.");
        document("!", 0, 1);
        document("a!", 1, 1);
        twig("!", 0, 1);
        twig("a!", 1, 1);
        s.says("It is at the first byte to which one of these applies: the byte cannot stand there (reason 1);");
        document("a)(b!", 1, 1);
        document("a(b1(!c))", 5, 1);
        document(Setups.STAR + "b!", 34, 1);
        // The 33rd element, and behind it a byte that cannot stand there; then the other way round.
        document(Setups.STAR.replace(")", "b!"), 33, 2);
        document(Setups.STAR.replace(")", "!b"), 33, 1);
        twig("a(/b/b/b/b/b/b!", 13, 2);
        twig("a(/b/b/b/b/b!/b", 12, 1);
        document("a(b(a(b(a(b(a(b(a(b(c!", 20, 3);
        document("a(b(a(b(a(b(a(b(a(b(!c", 20, 1);
        document(Setups.LONGEST.substring(0, 119) + "!", 119, 1);
    }

    private void tooMany() {
        s.says("it is the letter or * of a 33rd element or of a 7th node (reason 2);");
        whole(Setups.STAR, 32, Setups.STAR);
        document(Setups.STAR.replaceFirst("b", "bb"), 33, 2);
        document(Setups.STAR.replaceFirst("b", "b(b)"), 35, 2);
        document(Setups.STAR.replaceFirst("b\\)", "b(f))"), 34, 2);
        document(Setups.LONGEST.substring(0, 119) + "a", 119, 2);
        // A byte that can stand nowhere is that also in place of a 33rd element.
        document(Setups.STAR.replace(")", "*"), 33, 1);
        document(Setups.STAR.replace(")", "g"), 33, 1);
        document(Setups.STAR.replace(")", "1(1"), 35, 1);
        twigRead("a(/b/b/b/b/b)", 6);
        twig("a(/b/b/b/b/b/f)", 13, 2);
        twig("a(/b/b/b/b/b/*)", 13, 2);
        twig("a(/b/b/b/b/b(~*))", 14, 2);
        twig("a(/b/b/b/b/b;~a)", 14, 2);
        twig("a(/b/b/b/b/b/g)", 13, 1);
        twig("a(/b/b/b/b/b//)", 13, 1);
    }

    private void tooDeep() {
        s.says("otherwise it is the letter of an element with a level above 10 (reason 3).");
        whole(Setups.CHAIN, 10, Setups.CHAIN);
        document("a(b(a(b(a(b(a(b(a(b(c))))))))))", 20, 3);
        document("a(b(a(b(a(b(a(b(a(bb(c))))))))))", 21, 3);
        // Back to level 3, and down once more.
        document(Setups.CHAIN.substring(0, 19) + ")".repeat(7) + "b(a(b(a(b(a(b(a(b", 42, 3);
        // With 31 elements before it, the letter is too deep; with 32 of them it is one too many.
        String below = "(a(b(a(b(a(b(a(b(a";
        document("a(" + "b".repeat(22) + below, 41, 3);
        document("a(" + "b".repeat(23) + below, 42, 2);
        // A parenthesis can stand behind an element with level 10; only a letter is too deep.
        document("a(b(a(b(a(b(a(b(a(b(", 20, 1);
        document("a(b(a(b(a(b(a(b(a(b()", 20, 1);
        document("a(b(a(b(a(b(a(b(a(b(1", 20, 1);
    }

    private void tooEarly() {
        s.says("If the text ends too early, it is at its length, with reason 1.");
        for (String text : new String[] {"", "a(", "a(b", "a(b1", "a(b(c)", "a1(", "a(b(c", Setups.CHAIN.substring(0, 27),
            Setups.STAR.substring(0, 33), Setups.LONGEST.substring(0, 119)}) {
            document(text, text.length(), 1);
        }
        for (String text : new String[] {"", "a=", "*<", "a>", "a(", "a=1(", "a(/", "a(~b", "a(~b;", "a(~b;/",
            "a(~b<", "a(~b<1", "a(/b(/c)", "a(/b/b/b/b/b", "a(/b/b/b/b/b/", "a(/b/b/b/b/b("}) {
            twig(text, text.length(), 1);
        }
    }

    // ---- states

    private void keptChanges() {
        s.says("The calls of adds(), drops(), sets(), moves(), forgets(), builds() and twigs() that return "
                + "no error and no fault keep the tree and the twigs as they were before, also if nothing "
                + "changes, so that back() can restore them;");
        keeps("adds", x -> x.adds(0, 0, 0, 0));
        keeps("drops", x -> x.drops(1));
        keeps("sets", x -> x.sets(0, 5, 5));
        keeps("moves", x -> x.moves(1, 3, 0));
        keeps("forgets", x -> x.forgets(1));
        keeps("builds", x -> x.builds());
        keeps("twigs", x -> x.twigs(0));
        keeps("twigs of a new one", x -> x.twigs(3));
        keeps("sets as it is", x -> x.sets(0, 0, 0));
        keeps("moves to where it is", x -> x.moves(1, 0, 0));
        keeps("twigs as it is", x -> x.twigs(2));
        keeps("builds as it is", x -> Checks.build(x, "a(b(c)b(a(b2)c)c3)"));
    }

    private void keeps(String call, Sentences.Call change) {
        TwigMatches x = Setups.usual();
        String before = Sentences.state(x);
        s.due(call + " is no error", change.on(x) >= 0 ? 1 : 0, 1);
        s.due(call + ", states kept", x.told(6), 5);
        s.due(call + ", back", x.back(), 4);
        s.due(call + ", what back restored", Sentences.state(x), before);
    }

    private void nothingKept() {
        s.says("that return no error and no fault keep the tree");
        s.with(Setups::usual);
        s.refuses("adds", x -> x.adds(8, 0, 0, 0), BAD);
        s.refuses("drops", x -> x.drops(0), NO);
        s.refuses("sets", x -> x.sets(0, 6, 0), BAD);
        s.refuses("moves", x -> x.moves(1, 2, 0), NO);
        s.refuses("forgets", x -> x.forgets(3), NO);
        s.refuses("twigs", x -> x.twigs(4), BAD);
        for (String text : new String[] {"", "a(b", "b)"}) {
            TwigMatches x = Setups.usual();
            Checks.write(x, text);
            s.due("fault of builds", x.builds(), -10 - (text.equals("b)") ? 1 : text.length()));
            s.due("states after a fault of builds", x.told(6), 4);
            x.twigs(0);
            s.due("states after a fault of twigs", x.told(6), 4);
        }
    }

    private void eightStates() {
        s.says("at most 8 such states are kept, and when there is another one, the oldest is forgotten.");
        for (int changes = 0; changes <= 30; changes++) {
            TwigMatches x = new TwigMatches();
            for (int k = 1; k <= changes; k++) {
                x.sets(0, k / 10, k % 10);
            }
            int kept = Math.min(8, changes);
            s.due("kept after " + changes, x.told(6), kept);
            for (int k = 1; k <= kept; k++) {
                int then = changes - k;
                s.due("back " + k + " after " + changes, x.back(), kept - k);
                s.due("then the value", 10 * x.element(0, 0) + x.element(0, 1), then);
            }
            s.due("one back more after " + changes, x.back(), NO);
            s.due("the oldest after " + changes, 10 * x.element(0, 0) + x.element(0, 1), changes - kept);
        }
        goesRound();
    }

    /** Steps forth and back around the limit; a list of the values that are kept tells what is due. */
    private void goesRound() {
        TwigMatches x = new TwigMatches();
        java.util.ArrayDeque<Integer> kept = new java.util.ArrayDeque<>();
        int value = 0;
        for (int k = 0; k < 100; k++) {
            if (k % 13 < 9) {
                kept.addLast(value);
                value = k % 60;
                x.sets(0, value / 10, value % 10);
                if (kept.size() > 8) {
                    kept.removeFirst();
                }
            } else {
                value = kept.removeLast();
                s.due("back at step " + k, x.back(), kept.size());
            }
            s.due("value at step " + k, 10 * x.element(0, 0) + x.element(0, 1), value);
            s.due("kept at step " + k, x.told(6), kept.size());
        }
        s.due("no parent", x.element(0, 2), NONE);
    }
}
