/** Promises 21 to 26, sentence by sentence: texts, and what is read from them. */
final class TextPromises {
    private static final int NONE = TwigMatches.NONE, BAD = TwigMatches.BAD;
    private static final int NO = TwigMatches.NO, FULL = TwigMatches.FULL;
    private static final int MIN = Integer.MIN_VALUE, MAX = Integer.MAX_VALUE;
    private static final int[] NO_TWIG = {-1, 4, MIN, MAX};
    private final Sentences s;

    TextPromises(Sentences s) {
        this.s = s;
    }

    void all() {
        s.promise(21);
        type();
        s.promise(22);
        clear();
        s.promise(23);
        builds();
        s.promise(24);
        twigs();
        twigsRefused();
        s.promise(25);
        why();
        s.promise(26);
        shown();
        shownRefused();
    }

    /** The usual object with another text, which is not read yet. */
    private static TwigMatches typed(String text) {
        TwigMatches x = Setups.usual();
        Checks.write(x, text);
        return x;
    }

    private void type() {
        s.says("Appends a byte to the text.");
        TwigMatches x = new TwigMatches();
        s.due("type(102)", x.type('f'), 1);
        s.due("builds()", x.builds(), 1);
        s.due("type(55)", x.type('7'), 2);
        s.due("builds()", x.builds(), 1);
        s.due("tree", Checks.tree(x), "f7");
        s.says("the byte, 0 to 127");
        for (int k = 0; k < 128; k++) {
            int c = k;
            s.answers("type(" + c + ")", y -> y.type(c), 1);
        }
        s.says("Returns the new length of the text;");
        TwigMatches y = new TwigMatches();
        for (int k = 1; k <= 120; k++) {
            s.due("type " + k, y.type(k % 128), k);
        }
        s.says("BAD if c is out of range;");
        for (int c : new int[] {-1, 128, 129, 255, 256 + 'a', MIN, MAX, MIN + 'a'}) {
            s.with(TwigMatches::new);
            s.refuses("type(" + c + ")", z -> z.type(c), BAD);
            s.with(Setups::longText);
            s.refuses("type(" + c + ") behind 120 bytes", z -> z.type(c), BAD);
        }
        s.says("FULL if the text has 120 bytes already.");
        s.with(Setups::longText);
        s.refuses("type(0)", z -> z.type(0), FULL);
        s.refuses("type(127)", z -> z.type(127), FULL);
        s.with(() -> typed(Setups.LONGEST.substring(0, 119)));
        s.answers("type of the 120th byte", z -> z.type(')'), 120);
        s.with(() -> {
            TwigMatches z = Setups.longText();
            z.clear();
            return z;
        });
        s.answers("type after clear", z -> z.type('a'), 1);
    }

    private void clear() {
        s.says("Empties the text.");
        TwigMatches x = typed("a(b)");
        x.clear();
        s.due("told(5) then", x.told(5), 0);
        s.due("builds() then", x.builds(), -10);
        x.type('c');
        s.due("builds() of what was typed then", x.builds(), 1);
        s.due("tree then", Checks.tree(x), "c");
        s.says("Returns the length that it had.");
        s.answers("clear() of an empty text", y -> y.clear(), 0);
        s.with(() -> typed("a"));
        s.answers("clear() of one byte", y -> y.clear(), 1);
        s.with(Setups::longText);
        s.answers("clear() of a full text", y -> y.clear(), 120);
        s.with(() -> {
            TwigMatches y = Setups.longText();
            y.type('a');
            return y;
        });
        s.answers("clear() after a refused type()", y -> y.clear(), 120);
        s.with(() -> {
            TwigMatches y = Setups.longText();
            y.clear();
            return y;
        });
        s.answers("clear() again", y -> y.clear(), 0);
    }

    private void builds() {
        s.says("Reads the text as a document, which becomes the tree. The text stays.");
        TwigMatches x = typed("f9(e(d1))");
        s.due("builds()", x.builds(), 3);
        s.due("tree", Checks.tree(x), "f9(e(d1))");
        s.due("level", x.element(2, 5), 3);
        s.due("length of the text", x.told(5), 9);
        s.due("twigs that stay", x.told(4), 7);
        x.drops(1);
        s.due("builds() once more", x.builds(), 3);
        s.due("tree once more", Checks.tree(x), "f9(e(d1))");
        s.says("Returns the number of elements;");
        s.with(() -> typed("b"));
        s.answers("builds() of one", y -> y.builds(), 1);
        s.with(() -> typed(Setups.CHAIN));
        s.answers("builds() of ten levels", y -> y.builds(), 10);
        s.with(() -> typed(Setups.STAR));
        s.answers("builds() of 32", y -> y.builds(), 32);
        s.with(() -> typed(Setups.LONGEST));
        s.answers("builds() of 120 bytes", y -> y.builds(), 32);
        s.says("-10 minus the position of the fault if there is one (then nothing changes except what why() "
                + "returns).");
        faultOfBuilds("", -10, 1);
        faultOfBuilds("g", -10, 1);
        faultOfBuilds("ab", -11, 1);
        faultOfBuilds("a(", -12, 1);
        faultOfBuilds(Setups.STAR.replaceFirst("b", "bb"), -43, 2);
        faultOfBuilds("a(" + Setups.CHAIN + ")", -30, 3);
        faultOfBuilds(Setups.LONGEST.substring(0, 119), -129, 1);
        faultOfBuilds(Setups.LONGEST.substring(0, 119) + "(", -129, 1);
        faultOfBuilds(Setups.LONGEST.substring(0, 119) + "f", -129, 2);
    }

    private void faultOfBuilds(String text, int want, int reason) {
        fault("builds() of " + text, text, x -> x.builds(), want, reason);
    }

    private void fault(String call, String text, Sentences.Call reading, int want, int reason) {
        TwigMatches x = typed(text);
        String before = Sentences.state(x);
        s.due(call, reading.on(x), want);
        s.due(call + ", why", x.why(), reason);
        s.due(call + ", state", Sentences.state(x), before);
        s.due(call + ", states kept", x.told(6), 4);
        s.due(call + ", length of the text", x.told(5), text.length());
        s.due(call + ", errors", x.told(0) + x.told(1) + x.told(2), 0);
        s.due(call + ", once more", reading.on(x), want);
    }

    private void twigs() {
        s.says("Reads the text as a twig, which becomes a given one. The text stays.");
        TwigMatches x = typed("*<5(/b;~c)");
        s.due("twigs(3)", x.twigs(3), 3);
        s.due("twigs(0), in place of another", x.twigs(0), 3);
        s.due("twig 3", Checks.shown(x, 3), "*<5(/b;~c)");
        s.due("twig 0", Checks.shown(x, 0), "*<5(/b;~c)");
        s.due("twig 1", Checks.shown(x, 1), "a(~b;~c)");
        s.due("length of the text", x.told(5), 10);
        s.due("tree", Checks.tree(x), "a(b(c)b(a(b2)c)c3)");
        s.says("the twig, 0 to 3");
        s.with(() -> typed("a(/b)"));
        for (int k = 0; k < 4; k++) {
            int i = k;
            s.answers("twigs(" + i + ")", y -> y.twigs(i), 2);
        }
        s.says("Returns the number of its nodes;");
        s.with(() -> typed("*"));
        s.answers("twigs(0) of one", y -> y.twigs(0), 1);
        s.with(() -> typed("a=1(/b=2(/c=3(/d=4(/e=5(/f=6)))))"));
        s.answers("twigs(0) of six", y -> y.twigs(0), 6);
    }

    private void twigsRefused() {
        s.says("BAD if i is out of range;");
        for (int i : NO_TWIG) {
            s.with(() -> typed("a(/b)"));
            s.refuses("twigs(" + i + ")", y -> y.twigs(i), BAD);
            s.with(() -> typed("a(/b"));
            s.refuses("twigs(" + i + ") with a fault in the text", y -> y.twigs(i), BAD);
            s.with(TwigMatches::new);
            s.refuses("twigs(" + i + ") without a text", y -> y.twigs(i), BAD);
        }
        s.says("-10 minus the position of the fault if there is one (then nothing changes except what why() "
                + "returns).");
        for (int i : new int[] {0, 3}) {
            fault("twigs(" + i + ") of nothing", "", x -> x.twigs(i), -10, 1);
            fault("twigs(" + i + ") of a1", "a1", x -> x.twigs(i), -11, 1);
            fault("twigs(" + i + ") of a=", "a=", x -> x.twigs(i), -12, 1);
            fault("twigs(" + i + ") of a 7th node", "*(/*/*/*/*/*;~*)", x -> x.twigs(i), -24, 2);
            fault("twigs(" + i + ") of a document", "a(b)", x -> x.twigs(i), -12, 1);
        }
    }

    private void why() {
        s.says("Returns the reason of the latest fault.");
        TwigMatches x = new TwigMatches();
        s.due("fault of builds", Checks.build(x, Setups.STAR.replaceFirst("b", "bb")), -43);
        s.due("why", x.why(), 2);
        s.due("fault of twigs", Checks.twig(x, 0, "a(;"), -12);
        s.due("why after another fault", x.why(), 1);
        s.due("fault of builds", Checks.build(x, "a(" + Setups.CHAIN), -30);
        s.due("why after a third fault", x.why(), 3);
        s.due("no fault", Checks.build(x, "a(b)"), 2);
        s.due("why after no fault", x.why(), 3);
        s.due("back", x.back(), 0);
        s.due("why after back", x.why(), 3);
        s.due("an error", x.twigs(4), BAD);
        s.due("why after an error", x.why(), 3);
        x.clear();
        s.due("why after clear", x.why(), 3);
        s.says("Returns the reason, 1 to 3;");
        for (int reason = 1; reason <= 3; reason++) {
            String[] texts = {"", Setups.STAR.replaceFirst("b", "bb"), "a(" + Setups.CHAIN + ")"};
            TwigMatches y = new TwigMatches();
            Checks.build(y, texts[reason - 1]);
            s.due("reason " + reason, y.why(), reason);
        }
        s.says("0 if there was no fault yet.");
        s.answers("why() of a new object", y -> y.why(), 0);
        s.with(() -> {
            TwigMatches y = Setups.usual();
            y.drops(0);
            y.drops(8);
            return y;
        });
        s.answers("why() after errors, but no fault", y -> y.why(), 0);
    }

    private void shows(String call, TwigMatches x, int i, String want) {
        for (int k = 0; k < want.length(); k++) {
            s.due(call + ", byte " + k, x.shown(i, k), want.charAt(k));
        }
        s.due(call + ", the byte behind the last", x.shown(i, want.length()), NONE);
    }

    private void shown() {
        s.says("Returns a byte of the text of a twig or of the tree.");
        shows("the tree", Setups.usual(), NONE, "a(b(c)b(a(b2)c)c3)");
        shows("twig 1", Setups.usual(), 1, "a(~b;~c)");
        s.says("This text has no digit for the value 0 of an element and no parentheses around nothing;");
        shows("a0", Checks.made("a0"), NONE, "a");
        shows("a0(b0(c0)d1)", Checks.made("a0(b0(c0)d1)"), NONE, "a(b(c)d1)");
        TwigMatches x = Checks.made("a5(b6)");
        x.drops(1);
        x.sets(0, 0, 0);
        shows("after drops and sets", x, NONE, "a");
        s.says("the tests of nodes stand in it as they were read.");
        for (String twig : new String[] {"a", "a=0", "a<1", "a>8", "a=9", "*<0", "*>9", "*>0", "*<9",
            "f=0(/a<0;~b>9(/c=5))"}) {
            shows("twig " + twig, Checks.made("a", twig), 0, twig);
        }
        s.says("the twig, 0 to 3, or NONE for the tree");
        for (int k = -1; k < 4; k++) {
            shows("number " + k, Checks.made("f", "a", "b", "c", "d"), k, "fabcd".substring(k + 1, k + 2));
        }
        s.says("the index of the byte, 0 or more");
        s.with(Setups::usual);
        s.answers("shown(NONE, 0)", y -> y.shown(NONE, 0), 'a');
        s.answers("shown(0, 0)", y -> y.shown(0, 0), 'a');
        s.refuses("shown(NONE, -1)", y -> y.shown(NONE, -1), BAD);
        s.refuses("shown(0, -1)", y -> y.shown(0, -1), BAD);
        s.refuses("shown(NONE, MIN)", y -> y.shown(NONE, MIN), BAD);
    }

    private void shownRefused() {
        s.says("Returns the byte;");
        shows("the longest document", Checks.made(Setups.LONGEST), NONE, Setups.LONGEST);
        s.says("NONE if the text has not so many bytes;");
        s.with(() -> Checks.made(Setups.LONGEST, "a"));
        s.answers("shown(NONE, 119)", x -> x.shown(NONE, 119), ')');
        s.answers("shown(NONE, 120)", x -> x.shown(NONE, 120), NONE);
        s.answers("shown(NONE, MAX)", x -> x.shown(NONE, MAX), NONE);
        s.answers("shown(0, 0)", x -> x.shown(0, 0), 'a');
        s.answers("shown(0, 1)", x -> x.shown(0, 1), NONE);
        s.answers("shown(0, MAX)", x -> x.shown(0, MAX), NONE);
        s.says("BAD if an argument is out of range;");
        s.with(Setups::usual);
        for (int i : new int[] {-2, 4, MIN, MAX}) {
            s.refuses("shown(" + i + ", 0)", x -> x.shown(i, 0), BAD);
        }
        s.refuses("shown(3, -1), no twig", x -> x.shown(3, -1), BAD);
        s.refuses("shown(0, MIN)", x -> x.shown(0, MIN), BAD);
        s.says("NO if the twig does not exist.");
        s.with(Setups::usual);
        s.refuses("shown(3, 0)", x -> x.shown(3, 0), NO);
        s.refuses("shown(3, MAX)", x -> x.shown(3, MAX), NO);
        s.with(TwigMatches::new);
        s.refuses("shown(0, 0) of a new object", x -> x.shown(0, 0), NO);
        s.answers("shown(NONE, 0) of a new object", x -> x.shown(NONE, 0), 'a');
    }
}
