import java.util.Arrays;
import java.util.function.ToLongFunction;

/** What the tests of edges share: objects in states worth losing, and calls that are looked at from all sides. */
abstract class Edges {
    static final Checks CHECKS = new Checks();
    static final Document DOCUMENT = new Document();
    static final int TERMS = 0;
    static final int BAD = -1, FULL = -2, FINDING = -3, STATE = -4, NONE = -9;
    static final int NOTHING = 1, BEYOND = 2, UNLIKE = 3, NOUGHT = 4, SIZE = 5;
    static final int MIN = Integer.MIN_VALUE, MAX = Integer.MAX_VALUE;
    // a house, a heavy one, a rich one, a dead one, an infant, a mill
    static final String SIX = "s010 h3209v4512r9905d4899i4130m4425";
    private static final StackWalker STACK = StackWalker.getInstance();
    private static String sentence = "";

    /** A test of one sentence of a promise (or of the terms), told word for word. */
    static void edge(int promise, String words, Runnable test) {
        sentence = (promise == TERMS ? "terms" : "promise " + promise) + ", \"" + words + "\"";
        DOCUMENT.cite(promise, words);
        int before = CHECKS.seen();
        test.run();
        CHECKS.that(sentence + " is looked at", CHECKS.seen() > before);
    }

    // which line of the test it was: there is no text of the call
    private static String where() {
        return STACK.walk(frames -> frames.filter(f -> !f.getClassName().equals(Edges.class.getName())).findFirst())
            .map(f -> f.getFileName() + ":" + f.getLineNumber()).orElse("?") + " (" + sentence + ")";
    }

    static void due(long got, long want) {
        CHECKS.due(got == want ? "" : where(), got, want);
    }

    /** A call that answers 1, and what it tells by asked(). */
    static void tells(WokenYears x, long got, long told) {
        due(got, 1);
        due(x.asked(), told);
    }

    /** A call that answers 1, and what it tells by upper(), lower(). */
    static void ratio(WokenYears x, long got, long upper, long lower) {
        due(got, 1);
        due(x.upper(), upper);
        due(x.lower(), lower);
    }

    private static long[] all(WokenYears x) {
        return new long[] {x.digest(), x.asked(), x.upper(), x.lower(), x.finding(),
            x.findings(1), x.findings(2), x.findings(3), x.findings(4), x.findings(5)};
    }

    private static void same(long[] got, long[] want) {
        for (int k = 0; k < want.length; k++) {
            due(got[k], want[k]);
        }
    }

    /** A call that is refused without a finding, or answers NONE, and changes nothing. */
    static void refused(WokenYears x, ToLongFunction<WokenYears> call, int answer) {
        long[] before = all(x);
        due(call.applyAsLong(x), answer);
        same(all(x), before);
    }

    /** A call that is refused with a finding, and changes nothing else. */
    static void finds(WokenYears x, ToLongFunction<WokenYears> call, int finding) {
        long[] want = all(x);
        due(call.applyAsLong(x), FINDING);
        want[4] = finding;
        want[4 + finding]++;
        same(all(x), want);
    }

    /** Numbers that are none of those from least to most. */
    static int[] outside(int least, int most) {
        return new int[] {least - 1, most + 1, MIN, MAX};
    }

    static void write(WokenYears x, int t, String signs) {
        due(x.text(t, signs.length()), signs.length());
        for (int i = 0; i < signs.length(); i++) {
            due(x.put(t, i, signs.charAt(i)), 1032);
        }
    }

    static WokenYears in(String signs) {
        WokenYears x = new WokenYears();
        write(x, 0, signs);
        due(x.town(0), signs.chars().filter(c -> "hvrdim".indexOf(c) >= 0).count());
        return x;
    }

    static void rowOf(WokenYears x, int r, int... values) {
        due(x.row(r, values.length), values.length);
        for (int i = 0; i < values.length; i++) {
            tells(x, x.lay(r, i, values[i]), 0);
        }
    }

    static void isRow(WokenYears x, int r, int... values) {
        for (int i = 0; i < values.length; i++) {
            tells(x, x.at(r, i), values[i]);
        }
        finds(x, y -> y.at(r, values.length), BEYOND);
    }

    static void isText(WokenYears x, int t, String signs) {
        for (int i = 0; i < signs.length(); i++) {
            due(x.put(t, i, signs.charAt(i)), 1000 + signs.charAt(i));
        }
        finds(x, y -> y.put(t, signs.length(), 0), BEYOND);
    }

    static int[] times(int n, int v) {
        int[] all = new int[n];
        Arrays.fill(all, v);
        return all;
    }

    static void tap(WokenYears x, int times) {
        for (int k = 0; k < times; k++) {
            due(x.tap() >= 0 ? 1 : 0, 1);
        }
    }

    /**
     * Rows 0 (4, -5, 6), 1 (none), 5 (40 places), texts 0 (the six houses), 1 (60 blanks), 2 (none), a town kept in 0;
     * house 0 is awake, she stands at 2, the slate of 1 is 47; asked() 6, upper() 1, lower() 16; 4 deeds.
     */
    static WokenYears busy() {
        WokenYears x = in(SIX);
        rowOf(x, 0, 4, -5, 6);
        due(x.row(1, 0), 0);
        due(x.row(5, 40), 40);
        due(x.text(1, 60), 60);
        due(x.text(2, 0), 0);
        tap(x, 2);
        due(x.keep(0), 2);
        due(x.slate(1, 47), 45);
        due(x.walk(2), 4);
        due(x.mean(1), FINDING);
        tells(x, x.at(0, 2), 6);
        ratio(x, x.odds(1, 4, 6), 1, 16);
        return x;
    }

    /** The six houses behind so many deeds (frosts that come and go): minute 0, she stands at house 0. */
    static WokenYears behind(int deeds) {
        WokenYears x = in(SIX);
        for (int k = 0; k < deeds; k++) {
            due(x.frost((k + 1) % 2), (k + 1) % 2);
        }
        due(x.count(3), deeds);
        return x;
    }

    static WokenYears full() {
        return behind(40);
    }
}
