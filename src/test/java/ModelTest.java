import java.util.ArrayList;
import java.util.List;
import java.util.Random;

/** Runs of calls that are drawn from a fixed seed; each answer must be that of the model. */
public final class ModelTest {
    private static final String[] NAMES = {
        "adds", "drops", "sets", "moves", "element", "size", "node", "forgets", "nodes", "folds",
        "spare", "matches", "match", "place", "fits", "found", "part", "ways", "less", "type",
        "clear", "builds", "twigs", "why", "shown", "back", "told", "digest"};
    private static final int[] ARITY = {
        4, 1, 3, 3, 2, 0, 3, 1, 1, 2,
        2, 1, 3, 2, 2, 2, 3, 3, 2, 1,
        0, 0, 1, 0, 2, 0, 1, 0};
    /** Listing more than this by the model takes too long; such calls are left out. */
    private static final double MOST_EFFORT = 5_000_000;

    private final Random random;
    private final Checks checks;
    private TwigMatches x;
    private Model m;
    private int calls;
    private int treeSize;
    private String tags;
    private final List<String> log = new ArrayList<>();

    private ModelTest(long seed, Checks checks) {
        this.random = new Random(seed);
        this.checks = checks;
    }

    public static void main(String[] args) {
        int runs = args.length > 0 ? Integer.parseInt(args[0]) : 1500;
        long first = args.length > 1 ? Long.parseLong(args[1]) : 1;
        Checks checks = new Checks("ModelTest");
        for (int k = 0; k < runs; k++) {
            new ModelTest(first + k, checks).run();
        }
        checks.finish();
    }

    private void run() {
        x = new TwigMatches();
        m = new Model();
        calls = 0;
        tags = random.nextInt(3) == 0 ? "abcdef" : random.nextBoolean() ? "ab" : "a";
        treeSize = random.nextInt(3) == 0 ? 32 : 3 + random.nextInt(12);
        write(documentText());
        call("builds");
        for (int i = 0; i < 4; i++) {
            write(twigText());
            call("twigs", i);
        }
        while (calls < 500) {
            int kind = random.nextInt(80);
            if (kind == 0) {
                write(maybeSpoil(documentText()));
                call("builds");
            } else if (kind <= 3) {
                write(maybeSpoil(twigText()));
                call("twigs", number(4));
            } else if (kind <= 15) {
                change();
            } else if (kind <= 18) {
                call(NAMES[random.nextInt(NAMES.length)], wild(), wild(), wild(), wild());
            } else {
                ask();
            }
        }
        call("digest");
    }

    // ---- what is asked

    private void change() {
        int n = m.size();
        switch (random.nextInt(8)) {
            case 0: case 1: case 2:
                call("adds", number(n), child(), tag(), value());
                break;
            case 3: case 4:
                call("moves", number(n), number(n), child());
                break;
            case 5:
                call("sets", number(n), tag(), value());
                break;
            case 6:
                call(random.nextInt(3) == 0 ? "drops" : "back", number(n));
                break;
            default:
                call(random.nextInt(3) == 0 ? "forgets" : "back", number(4));
                break;
        }
    }

    private void ask() {
        int n = m.size();
        int i = number(4);
        int q = number(i >= 0 && i < 4 ? m.nodes(i) : 6);
        if (i < 0 || i > 3) {
            call("nodes", i);
        }
        switch (random.nextInt(16)) {
            case 0: call("element", number(n), number(8)); break;
            case 1: call("node", i, q, number(5)); break;
            case 2: call("folds", i, number(4)); break;
            case 3: call("spare", i, q); break;
            case 4: call("matches", i); break;
            case 5: case 6: askMatch(i, q); break;
            case 7: case 8: askPlace(i); break;
            case 9: call("fits", i, q); break;
            case 10: call("found", i, q); break;
            case 11: call("part", i, q, number(n)); break;
            case 12: call("ways", i, q, number(2)); break;
            case 13: call("less", i, number(n)); break;
            case 14: call("shown", random.nextBoolean() ? i : -1, random.nextInt(30)); break;
            default: call("told", number(7)); break;
        }
    }

    private void askMatch(int i, int q) {
        long all = tooMuch() || i < 0 || i > 3 || m.nodes(i) == 0 ? 3 : m.listMatches(i).size();
        call("match", i, random.nextInt((int) all + 2) - (random.nextInt(20) == 0 ? 1 : 0), q);
    }

    private void askPlace(int i) {
        if (i < 0 || i > 3 || m.nodes(i) == 0 || tooMuch()) {
            call("place", i, random.nextInt(2000) - 5);
            return;
        }
        List<int[]> all = m.listMatches(i);
        long told = all.isEmpty() ? random.nextInt(5000)
                : Model.number(all.get(random.nextInt(all.size())));
        if (random.nextInt(3) == 0) {
            told ^= 1L << random.nextInt(5 * m.nodes(i) + 2);
        }
        call("place", i, told);
    }

    private int child() {
        return random.nextBoolean() ? 0 : random.nextInt(4) - random.nextInt(12) / 11;
    }

    private int tag() {
        return random.nextInt(20) == 0 ? 6 : tags.charAt(random.nextInt(tags.length())) - 'a';
    }

    private int value() {
        return random.nextInt(20) == 0 ? 10 : random.nextBoolean() ? 0 : random.nextInt(10);
    }

    /** A number below n, now and then one that is just outside. */
    private int number(int n) {
        if (random.nextInt(25) == 0) {
            return random.nextInt(3) == 0 ? -1 : n;
        }
        return random.nextInt(Math.max(1, n));
    }

    private long wild() {
        long[] some = {0, 1, 2, 3, 5, 6, 9, 31, 32, 127, 128, -1, -2, 1L << 31,
            Integer.MAX_VALUE, Integer.MIN_VALUE, Long.MAX_VALUE, Long.MIN_VALUE};
        return some[random.nextInt(some.length)];
    }

    // ---- texts

    private String documentText() {
        StringBuilder text = new StringBuilder();
        int[] left = {random.nextInt(8) == 0 ? 34 : 1 + random.nextInt(treeSize)};
        element(text, left, 1, random.nextInt(20) == 0 ? 11 : 10, random.nextInt(3));
        return text.toString();
    }

    private void element(StringBuilder text, int[] left, int level, int deepest, int shape) {
        left[0]--;
        text.append(tags.charAt(random.nextInt(tags.length())));
        if (random.nextInt(3) == 0) {
            text.append(random.nextInt(10));
        }
        if (left[0] <= 0 || level >= deepest || level > 1 && random.nextInt(4) == 0) {
            return;
        }
        text.append('(');
        do {
            element(text, left, level + 1, deepest, shape);
        } while (left[0] > 0 && (level == 1 || random.nextInt(2 + shape) > 0));
        text.append(')');
    }

    private String twigText() {
        StringBuilder text = new StringBuilder();
        int[] left = {random.nextInt(12) == 0 ? 7 : 1 + random.nextInt(6)};
        branch(text, left, true, random.nextInt(3) == 0);
        return text.toString();
    }

    private void branch(StringBuilder text, int[] left, boolean isRoot, boolean noOrder) {
        left[0]--;
        text.append(random.nextInt(2) == 0 ? '*' : tags.charAt(random.nextInt(tags.length())));
        if (random.nextInt(8) == 0) {
            text.append("=<>".charAt(random.nextInt(3))).append(random.nextInt(10));
        }
        if (left[0] <= 0 || !isRoot && random.nextInt(2) == 0) {
            return;
        }
        text.append('(');
        boolean first = true;
        do {
            text.append(!first && !noOrder && random.nextBoolean() ? ";" : "");
            text.append(random.nextBoolean() ? '/' : '~');
            branch(text, left, false, noOrder);
            first = false;
        } while (left[0] > 0 && (isRoot || random.nextBoolean()));
        text.append(')');
    }

    private String maybeSpoil(String text) {
        if (random.nextInt(4) != 0) {
            return text;
        }
        StringBuilder spoilt = new StringBuilder(text);
        int k = random.nextInt(text.length() + 1);
        String signs = "abf*()/~;=<>059g A\0";
        char sign = signs.charAt(random.nextInt(signs.length()));
        switch (random.nextInt(3)) {
            case 0: spoilt.insert(k, sign); break;
            case 1: spoilt.setLength(k); break;
            default:
                if (k < text.length()) {
                    spoilt.setCharAt(k, sign);
                }
                break;
        }
        return spoilt.toString();
    }

    private void write(String text) {
        call("clear");
        for (int k = 0; k < text.length(); k++) {
            call("type", text.charAt(k));
        }
    }

    // ---- the calls

    private boolean tooMuch() {
        return m.effort() > MOST_EFFORT;
    }

    private void call(String name, long... args) {
        int arity = 0;
        for (int k = 0; k < NAMES.length; k++) {
            arity = NAMES[k].equals(name) ? ARITY[k] : arity;
        }
        boolean lists = "matches match place found part ways less digest".contains(name);
        if (calls >= 512 || lists && tooMuch()) {
            calls++;
            return;
        }
        calls++;
        int[] a = new int[4];
        StringBuilder line = new StringBuilder(name);
        for (int k = 0; k < arity; k++) {
            a[k] = (int) args[k];
            line.append(' ').append(args[k]);
        }
        log.add(line.toString());
        long second = arity > 1 ? args[1] : 0;
        long want = askModel(name, a, second);
        long got = askClass(name, a, second);
        if (got != want) {
            System.out.println(log);
        }
        checks.due(line.toString(), got, want);
    }

    private long askClass(String name, int[] a, long second) {
        switch (name) {
            case "adds": return x.adds(a[0], a[1], a[2], a[3]);
            case "drops": return x.drops(a[0]);
            case "sets": return x.sets(a[0], a[1], a[2]);
            case "moves": return x.moves(a[0], a[1], a[2]);
            case "element": return x.element(a[0], a[1]);
            case "size": return x.size();
            case "node": return x.node(a[0], a[1], a[2]);
            case "forgets": return x.forgets(a[0]);
            case "nodes": return x.nodes(a[0]);
            case "folds": return x.folds(a[0], a[1]);
            case "spare": return x.spare(a[0], a[1]);
            case "matches": return x.matches(a[0]);
            case "match": return x.match(a[0], second, a[2]);
            case "place": return x.place(a[0], second);
            case "fits": return x.fits(a[0], a[1]);
            case "found": return x.found(a[0], a[1]);
            case "part": return x.part(a[0], a[1], a[2]);
            case "ways": return x.ways(a[0], a[1], a[2]);
            case "less": return x.less(a[0], a[1]);
            case "type": return x.type(a[0]);
            case "clear": return x.clear();
            case "builds": return x.builds();
            case "twigs": return x.twigs(a[0]);
            case "why": return x.why();
            case "shown": return x.shown(a[0], a[1]);
            case "back": return x.back();
            case "told": return x.told(a[0]);
            default: return x.digest();
        }
    }

    private long askModel(String name, int[] a, long second) {
        switch (name) {
            case "adds": return m.adds(a[0], a[1], a[2], a[3]);
            case "drops": return m.drops(a[0]);
            case "sets": return m.sets(a[0], a[1], a[2]);
            case "moves": return m.moves(a[0], a[1], a[2]);
            case "element": return m.element(a[0], a[1]);
            case "size": return m.size();
            case "node": return m.node(a[0], a[1], a[2]);
            case "forgets": return m.forgets(a[0]);
            case "nodes": return m.nodes(a[0]);
            case "folds": return m.folds(a[0], a[1]);
            case "spare": return m.spare(a[0], a[1]);
            case "matches": return m.matches(a[0]);
            case "match": return m.match(a[0], second, a[2]);
            case "place": return m.place(a[0], second);
            case "fits": return m.fits(a[0], a[1]);
            case "found": return m.found(a[0], a[1]);
            case "part": return m.part(a[0], a[1], a[2]);
            case "ways": return m.ways(a[0], a[1], a[2]);
            case "less": return m.less(a[0], a[1]);
            case "type": return m.type(a[0]);
            case "clear": return m.clear();
            case "builds": return m.builds();
            case "twigs": return m.twigs(a[0]);
            case "why": return m.why();
            case "shown": return m.shown(a[0], a[1]);
            case "back": return m.back();
            case "told": return m.told(a[0]);
            default: return m.digest();
        }
    }
}
