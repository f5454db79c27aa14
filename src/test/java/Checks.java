/** Compares answers with those that are due and counts the wrong ones. */
final class Checks {
    private final String name;
    private int asked = 0;
    private int wrong = 0;

    Checks(String name) {
        this.name = name;
    }

    void due(String call, long got, long want) {
        asked++;
        if (got != want) {
            wrong++;
            System.out.println(name + ": " + call + " answered " + got + ", due is " + want);
        }
    }

    void due(String call, String got, String want) {
        asked++;
        if (!got.equals(want)) {
            wrong++;
            System.out.println(name + ": " + call + " answered " + got + ", due is " + want);
        }
    }

    void finish() {
        System.out.println(name + ": " + asked + " answers, " + wrong + " of them wrong");
        if (wrong != 0 || asked == 0) {
            System.exit(1);
        }
    }

    /** Puts a text in place of the one that is there. */
    static void write(TwigMatches x, String text) {
        x.clear();
        for (int k = 0; k < text.length(); k++) {
            x.type(text.charAt(k));
        }
    }

    static int build(TwigMatches x, String text) {
        write(x, text);
        return x.builds();
    }

    static int twig(TwigMatches x, int i, String text) {
        write(x, text);
        return x.twigs(i);
    }

    /** A new object with a tree and up to four twigs. */
    static TwigMatches made(String tree, String... twigs) {
        TwigMatches x = new TwigMatches();
        build(x, tree);
        for (int i = 0; i < twigs.length; i++) {
            twig(x, i, twigs[i]);
        }
        return x;
    }

    /** The whole text of a twig, or of the tree for NONE. */
    static String shown(TwigMatches x, int i) {
        StringBuilder text = new StringBuilder();
        for (int k = 0; k < 1000; k++) {
            int c = x.shown(i, k);
            if (c < 0) {
                return text.toString();
            }
            text.append((char) c);
        }
        return "a text without an end";
    }

    static String tree(TwigMatches x) {
        return shown(x, TwigMatches.NONE);
    }

    static int set(int... numbers) {
        int set = 0;
        for (int k : numbers) {
            set |= 1 << k;
        }
        return set;
    }
}
