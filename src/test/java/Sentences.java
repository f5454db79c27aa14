import java.nio.file.Files;
import java.nio.file.Path;
import java.util.function.Supplier;

/**
 * Tests by the sentences of the document: says() begins the test of one of them, and what follows
 * belongs to it. A sentence that no test quotes, or whose test asks nothing, is an error too.
 */
final class Sentences {
    interface Call {
        long on(TwigMatches x);
    }

    private static final Path FILE = Path.of("../shared/DOC.md");
    private static final int BAD = TwigMatches.BAD;

    private final Checks checks = new Checks("SentenceTest");
    private final Document document;
    private String section = "";
    private String sentence = "";
    private int asked = 1;
    private int sentences = 0;
    private Supplier<TwigMatches> setup = TwigMatches::new;

    Sentences() throws Exception {
        document = Files.isReadable(FILE) ? new Document(FILE) : null;
        if (document == null) {
            System.out.println("SentenceTest: " + FILE + " is not here, so no quotation is looked up");
        }
    }

    void section(String name) {
        section = name;
    }

    void promise(int number) {
        section("Promise " + number);
    }

    void says(String words) {
        endSentence();
        sentence = words;
        asked = 0;
        sentences++;
        setup = TwigMatches::new;
        if (document != null && !document.quote(section, words)) {
            checks.due(section + " says: " + words, 0, 1);
        }
    }

    private void endSentence() {
        if (asked == 0) {
            checks.due(section + ", checks of: " + sentence, 0, 1);
        }
    }

    void finish() {
        endSentence();
        if (document != null) {
            for (String name : document.promising()) {
                checks.due(name + ", sentences without a test", document.unquoted(name).toString(), "[]");
            }
        }
        System.out.println("SentenceTest: " + sentences + " sentences");
        checks.finish();
    }

    // ---- what a test asks

    private String named(String call) {
        return section + " [" + sentence + "] " + call;
    }

    void due(String call, long got, long want) {
        asked++;
        checks.due(named(call), got, want);
    }

    void due(String call, String got, String want) {
        asked++;
        checks.due(named(call), got, want);
    }

    /** The objects that the next calls of this sentence are made on, a new one for each call. */
    void with(Supplier<TwigMatches> made) {
        setup = made;
    }

    /** A call that is not refused: the answer is as told, and no error is counted. */
    void answers(String call, Call asks, long want) {
        TwigMatches x = setup.get();
        int[] before = errors(x);
        due(call, asks.on(x), want);
        int[] after = errors(x);
        for (int k = 0; k < 3; k++) {
            due(call + ", then told(" + k + ")", after[k], before[k]);
        }
    }

    /** A call that is refused: the code is answered and counted once, and nothing else changes. */
    void refuses(String call, Call asks, int code) {
        refuses(call, asks, code, code);
    }

    void refuses(String call, Call asks, int code, long answer) {
        TwigMatches x = setup.get();
        int[] before = errors(x);
        due(call, asks.on(x), answer);
        int[] after = errors(x);
        for (int k = 0; k < 3; k++) {
            due(call + ", then told(" + k + ")", after[k], before[k] + (k == BAD - code ? 1 : 0));
        }
        due(call + ", all that can be seen then", look(x), look(setup.get()));
    }

    static int[] errors(TwigMatches x) {
        return new int[] {x.told(0), x.told(1), x.told(2)};
    }

    /** The tree, the twigs that exist and the number of their matches. */
    static String state(TwigMatches x) {
        StringBuilder seen = new StringBuilder(Checks.tree(x));
        int exist = x.told(4);
        for (int i = 0; i < 4; i++) {
            if ((exist >> i & 1) != 0) {
                seen.append(' ').append(i).append(':').append(Checks.shown(x, i));
                seen.append('=').append(x.matches(i));
            }
        }
        return seen.toString();
    }

    /** All that can be seen of an object but the counts of errors, which is used up by this. */
    static String look(TwigMatches x) {
        StringBuilder seen = new StringBuilder("text " + x.told(5) + ", why " + x.why());
        seen.append(", size ").append(x.size()).append(", ").append(state(x));
        int kept = x.told(6);
        for (int k = 0; k < kept; k++) {
            seen.append(", back ").append(x.back()).append(' ').append(state(x));
        }
        seen.append(", read ").append(x.builds()).append(' ').append(Checks.tree(x));
        return seen.toString();
    }
}
