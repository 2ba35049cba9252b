/** For each promise of the document: ordinary inputs, the edges that it names, wrong inputs; all dues are worked out by hand. */
public final class PromiseTests {
    private static final Checks CHECKS = new Checks();
    private static final int BAD = -1, FULL = -2, FINDING = -3, STATE = -4, NONE = -9;
    private static final int NOTHING = 1, BEYOND = 2, UNLIKE = 3, NOUGHT = 4, SIZE = 5;
    private static final int MIN = Integer.MIN_VALUE, MAX = Integer.MAX_VALUE;
    // a house, a heavy one, a rich one, a dead one, an infant, a mill
    private static final String SIX = "s010 h3209v4512r9905d4899i4130m4425";

    public static void main(String[] args) {
        constants();
        newObject();
        rowsAndPlaces();
        copies();
        means();
        texts();
        faults();
        towns();
        houses();
        marks();
        walks();
        taps();
        slates();
        frosts();
        nights();
        undone();
        keptTowns();
        whatDatesTake();
        quarrels();
        soonest();
        inTime();
        many();
        dates();
        whoseAndKinds();
        tests();
        setsAndSure();
        duels();
        oddsAndMid();
        lots();
        told();
        findings();
        digests();
        CHECKS.end("PromiseTests");
    }

    private static void due(String call, long got, long want) {
        CHECKS.due(call, got, want);
    }

    /** A call that is refused with a finding. */
    private static void finds(WokenYears x, String call, int got, int finding) {
        due(call, got, FINDING);
        due("finding() behind " + call, x.finding(), finding);
    }

    /** A call that answers 1, and what it tells by asked(). */
    private static void tells(WokenYears x, String call, int got, int asked) {
        due(call, got, 1);
        due("asked() behind " + call, x.asked(), asked);
    }

    private static void ratio(WokenYears x, String call, int got, long upper, long lower) {
        due(call, got, 1);
        due("upper() behind " + call, x.upper(), upper);
        due("lower() behind " + call, x.lower(), lower);
    }

    private static void write(WokenYears x, int t, String signs) {
        due("text of " + signs.length(), x.text(t, signs.length()), signs.length());
        for (int i = 0; i < signs.length(); i++) {
            due("put " + i, x.put(t, i, signs.charAt(i)), 1032);
        }
    }

    private static WokenYears in(String signs) {
        WokenYears x = new WokenYears();
        write(x, 0, signs);
        CHECKS.that("a town of " + signs, x.town(0) > 0);
        return x;
    }

    private static void rowOf(WokenYears x, int r, int... values) {
        due("row", x.row(r, values.length), values.length);
        for (int i = 0; i < values.length; i++) {
            due("lay", x.lay(r, i, values[i]), 1);
        }
    }

    private static void isRow(WokenYears x, int r, int... values) {
        for (int i = 0; i < values.length; i++) {
            tells(x, "place " + i + " of row " + r, x.at(r, i), values[i]);
        }
        finds(x, "behind the end of row " + r, x.at(r, values.length), BEYOND);
    }

    private static void tap(WokenYears x, int times) {
        for (int k = 0; k < times; k++) {
            x.tap();
        }
    }

    private static void constants() {
        due("BAD", WokenYears.BAD, -1);
        due("FULL", WokenYears.FULL, -2);
        due("FINDING", WokenYears.FINDING, -3);
        due("STATE", WokenYears.STATE, -4);
        due("SPENT", WokenYears.SPENT, -6);
        due("NONE", WokenYears.NONE, -9);
    }

    // 1, and the calls that need no house
    private static void newObject() {
        WokenYears x = new WokenYears();
        for (int what = 0; what <= 13; what++) {
            due("count(" + what + ") of a new object", x.count(what), 0);
        }
        due("asked()", x.asked(), 0);
        due("upper()", x.upper(), 0);
        due("lower()", x.lower(), 1);
        due("finding()", x.finding(), 0);
        for (int r = 0; r <= 5; r++) {
            finds(x, "at(" + r + ", 0)", x.at(r, 0), NOTHING);
        }
        for (int t = 0; t <= 3; t++) {
            finds(x, "fault(" + t + ")", x.fault(t), NOTHING);
            finds(x, "town(" + t + ")", x.town(t), NOTHING);
        }
        due("house", x.house(0, 0), BAD);
        due("mark", x.mark(0, 1), BAD);
        due("walk", x.walk(0), BAD);
        due("tap", x.tap(), STATE);
        due("slate", x.slate(0, 1), BAD);
        due("frost(0)", x.frost(0), STATE);
        due("frost(1)", x.frost(1), STATE);
        due("night", x.night(), STATE);
        due("undo(0)", x.undo(0), 0);
        due("undo(1)", x.undo(1), BAD);
        due("keep", x.keep(0), STATE);
        finds(x, "on", x.on(0), NOTHING);
        due("takes", x.takes(0, 1), BAD);
        due("pays", x.pays(0), BAD);
        due("who", x.who(1, 1), 0);
        due("quarrels", x.quarrels(), STATE);
        due("soonest(0)", x.soonest(0), 0);
        due("soonest(1)", x.soonest(1), BAD);
        due("intime(0, 0)", x.intime(0, 0), 0);
        due("many", x.many(), STATE);
        due("dates", x.dates(0), STATE);
        due("whose", x.whose(0), 0);
        due("kinds", x.kinds(0), 63);
        due("sets", x.sets(0), STATE);
        due("sure", x.sure(0), STATE);
        due("duel", x.duel(0), STATE);
        due("odds", x.odds(0, 0, 0), BAD);
        due("mid", x.mid(0, 0, 0), BAD);
        due("lots", x.lots(1, 1), STATE);
    }

    // 2 to 5
    private static void rowsAndPlaces() {
        WokenYears x = new WokenYears();
        due("row(0, 3)", x.row(0, 3), 3);
        isRow(x, 0, 0, 0, 0);
        due("row(5, 40)", x.row(5, 40), 40);
        due("row(5, 41)", x.row(5, 41), BAD);
        due("row(0, 0)", x.row(0, 0), 0);
        finds(x, "at(0, 0)", x.at(0, 0), BEYOND);
        finds(x, "lay(0, 0, 1)", x.lay(0, 0, 1), BEYOND);
        for (int r : new int[] {-1, 6, MIN, MAX}) {
            due("row", x.row(r, 1), BAD);
            due("row below 0 of none", x.row(r, -1), BAD);
            due("lay", x.lay(r, 0, 1), BAD);
            due("at", x.at(r, 0), BAD);
            due("tear", x.tear(r), BAD);
            due("mean", x.mean(r), BAD);
        }
        finds(x, "row(5, -1)", x.row(5, -1), SIZE);
        finds(x, "row(5, MIN)", x.row(5, MIN), SIZE);
        due("rows there", x.count(10), 2);

        rowOf(x, 1, 7, -8, MAX);
        tells(x, "lay(1, 1, 9)", x.lay(1, 1, 9), -8);
        tells(x, "lay(1, 2, MIN)", x.lay(1, 2, MIN), MAX);
        isRow(x, 1, 7, 9, MIN);
        finds(x, "lay(1, 3, 0)", x.lay(1, 3, 0), BEYOND);
        finds(x, "lay(1, -1, 0)", x.lay(1, -1, 0), BEYOND);
        finds(x, "at(1, -1)", x.at(1, -1), BEYOND);
        finds(x, "at(1, MAX)", x.at(1, MAX), BEYOND);
        finds(x, "lay(2, 0, 0)", x.lay(2, 0, 0), NOTHING);
        due("row(1, 2)", x.row(1, 2), 2);
        isRow(x, 1, 0, 0);
        due("row(1, 3)", x.row(1, 3), 3);
        isRow(x, 1, 0, 0, 0);

        due("tear(1)", x.tear(1), 1);
        finds(x, "tear(1) again", x.tear(1), NOTHING);
        finds(x, "at(1, 0)", x.at(1, 0), NOTHING);
        due("rows there", x.count(10), 2);
        due("tear(0), of no ints", x.tear(0), 1);
        due("rows there", x.count(10), 1);
    }

    // 6
    private static void copies() {
        WokenYears x = new WokenYears();
        rowOf(x, 0, 1, 2, 3, 4, 5);
        rowOf(x, 1, 6, 7, 8);
        due("copy", x.copy(0, 3, 1, 1, 2), 1);
        isRow(x, 1, 6, 4, 5);
        due("copy on", x.copy(0, 0, 0, 1, 4), 1);
        isRow(x, 0, 1, 1, 2, 3, 4);
        due("copy back", x.copy(0, 1, 0, 0, 4), 1);
        isRow(x, 0, 1, 2, 3, 4, 4);
        due("copy of none", x.copy(0, 5, 1, 3, 0), 1);
        finds(x, "copy of none from behind", x.copy(0, 6, 1, 3, 0), BEYOND);
        finds(x, "copy of none to behind", x.copy(0, 5, 1, 4, 0), BEYOND);
        finds(x, "copy of none from below", x.copy(0, -1, 1, 0, 0), BEYOND);
        finds(x, "copy of none to below", x.copy(0, 0, 1, -1, 0), BEYOND);
        finds(x, "copy of too many from", x.copy(1, 2, 0, 0, 2), BEYOND);
        finds(x, "copy of too many to", x.copy(0, 0, 1, 2, 2), BEYOND);
        finds(x, "copy far", x.copy(0, 1, 1, 0, MAX), BEYOND);
        finds(x, "copy from far", x.copy(0, MAX, 1, 0, 1), BEYOND);
        finds(x, "copy to far", x.copy(0, 0, 1, MAX, MAX), BEYOND);
        finds(x, "copy of fewer than none", x.copy(0, 0, 1, 0, -1), SIZE);
        finds(x, "SIZE ahead of NOTHING", x.copy(2, 0, 1, 0, MIN), SIZE);
        finds(x, "NOTHING from", x.copy(2, -1, 1, 0, 1), NOTHING);
        finds(x, "NOTHING to", x.copy(1, 9, 2, 0, 1), NOTHING);
        due("BAD ahead of SIZE", x.copy(6, 0, 1, 0, -1), BAD);
        due("BAD to", x.copy(0, 0, -1, 0, 1), BAD);
        isRow(x, 0, 1, 2, 3, 4, 4);
        isRow(x, 1, 6, 4, 5);
        x.row(4, 0);
        due("copy of none to a row of none", x.copy(0, 2, 4, 0, 0), 1);
        due("copy of none from a row of none", x.copy(4, 0, 0, 2, 0), 1);
        finds(x, "copy from a row of none", x.copy(4, 0, 0, 2, 1), BEYOND);
    }

    // 7
    private static void means() {
        WokenYears x = new WokenYears();
        rowOf(x, 0, 1, 2, 5);
        tells(x, "mean of 1, 2, 5", x.mean(0), 2);
        rowOf(x, 0, -1, -2);
        tells(x, "mean of -1, -2", x.mean(0), -1);
        rowOf(x, 0, -7, 0, 0, 0);
        tells(x, "mean of -7, 0, 0, 0", x.mean(0), -1);
        rowOf(x, 0, MAX, MAX, MAX);
        tells(x, "mean of the greatest", x.mean(0), MAX);
        rowOf(x, 0, MIN, MIN);
        tells(x, "mean of the least", x.mean(0), MIN);
        x.row(0, 0);
        finds(x, "mean of none", x.mean(0), NOUGHT);
        finds(x, "mean of a missing row", x.mean(1), NOTHING);
        due("asked() stays", x.asked(), MIN);
    }

    // 8, 9
    private static void texts() {
        WokenYears x = new WokenYears();
        due("text(0, 60)", x.text(0, 60), 60);
        due("text(0, 61)", x.text(0, 61), BAD);
        due("text(4, 1)", x.text(4, 1), BAD);
        due("text(-1, -1)", x.text(-1, -1), BAD);
        finds(x, "text(0, -1)", x.text(0, -1), SIZE);
        due("put(0, 59, 65)", x.put(0, 59, 65), 1032);
        due("put(0, 59, 200)", x.put(0, 59, 200), 1065);
        due("put(0, 59, -128)", x.put(0, 59, -128), 1000 - 56);
        due("put(0, 59, 127)", x.put(0, 59, 127), 872);
        due("put(0, 59, 256)", x.put(0, 59, 256), 1127);
        due("put(0, 59, MIN)", x.put(0, 59, MIN), 1000);
        due("put(0, 59, 1)", x.put(0, 59, 1), 1000);
        finds(x, "put(0, 60, 1)", x.put(0, 60, 1), BEYOND);
        finds(x, "put(0, -1, 1)", x.put(0, -1, 1), BEYOND);
        finds(x, "put(1, 0, 1)", x.put(1, 0, 1), NOTHING);
        due("put(4, 0, 1)", x.put(4, 0, 1), BAD);
        due("texts there", x.count(11), 1);
        due("text(3, 0)", x.text(3, 0), 0);
        finds(x, "put(3, 0, 1)", x.put(3, 0, 1), BEYOND);
        due("texts there", x.count(11), 2);
        due("text anew", x.text(0, 60), 60);
        due("blanks again", x.put(0, 59, 1), 1032);
    }

    // 10
    private static void faults() {
        fault("", 0);
        fault("   ", 3);
        fault(" ".repeat(60), 60);
        fault(" ".repeat(51) + "s010h3209", NONE);
        fault("s010" + " ".repeat(51) + "h3209", NONE);
        fault("s010h3209", NONE);
        fault("  s010   h3209  i0000 ", NONE);
        fault("s199m9999", NONE);
        fault("h3209", 0);
        fault(" S010h3209", 1);
        fault("s210h3209", 1);
        fault("s/10h3209", 1);
        fault("s 010h3209", 1);
        fault("s0:0h3209", 2);
        fault("s01 0h3209", 3);
        fault("s01:h3209", 3);
        fault("s010h320:", 8);
        fault("s01", 3);
        fault("s010", 4);
        fault("s010  ", 6);
        fault("s0101h3209", 4);
        fault("s010s010", 4);
        fault("s010 x3209", 5);
        fault("s010 h 3209", 6);
        fault("s010 h32 09", 8);
        fault("s010 h3209 v450", 15);
        fault("s010 h3209 v450 ", 15);
        fault("s010 h32091", 10);
        fault("s010h0000v0000r0000d0000i0000m0000", NONE);
        fault("s010h0000v0000r0000d0000i0000m0000  ", NONE);
        fault("s010h0000v0000r0000d0000i0000m0000h0000", 34);
        fault("s010h0000v0000r0000d0000i0000m0000 h", 35);
        fault("s010h0000v0000r0000d0000i0000m0000 7", 35);
        WokenYears x = new WokenYears();
        write(x, 2, "s010h3209");
        x.put(2, 4, 104 + 256);
        due("cut to a letter", x.fault(2), NONE);
        x.put(2, 4, -24);
        due("a sign below 0", x.fault(2), 4);
        finds(x, "fault of a missing text", x.fault(1), NOTHING);
        due("fault(4)", x.fault(4), BAD);
        due("fault(-1)", x.fault(-1), BAD);
    }

    private static void fault(String signs, int place) {
        WokenYears x = new WokenYears();
        write(x, 0, signs);
        due("fault of \"" + signs + "\"", x.fault(0), place);
        due("no houses by a fault alone", x.count(0), 0);
        if (place == NONE) {
            CHECKS.that("a town of \"" + signs + "\"", x.town(0) > 0);
        } else {
            due("town of \"" + signs + "\"", x.town(0), STATE);
        }
    }

    // 11
    private static void towns() {
        WokenYears x = in("s142 d0001 r9876");
        due("houses", x.count(0), 2);
        due("frost", x.count(5), 1);
        due("years to quarrel", x.count(13), 42);
        tells(x, "date", x.house(1, 1), 98);
        tells(x, "minute", x.house(1, 2), 76);
        x.walk(1);
        x.tap();
        x.night();
        x.walk(1);
        x.keep(0);
        x.keep(2);
        due("kept", x.count(12), 2);
        write(x, 3, "s010");
        due("town of a fault", x.town(3), STATE);
        due("town(1)", x.town(1), FINDING);
        due("town(4)", x.town(4), BAD);
        due("town(-1)", x.town(-1), BAD);
        due("refused, it changes nothing", x.count(0), 2);
        due("refused, it changes nothing", x.count(12), 2);
        due("refused, it changes nothing", x.count(7), 2);
        write(x, 3, "s009 h0001 h0002 h0003");
        due("town(3)", x.town(3), 3);
        int[] counts = {3, 0, 0, 0, 0, 0, 0, 0, 0, 0, 0, 2, 0, 9};
        for (int what = 0; what <= 13; what++) {
            due("count(" + what + ") of a town anew", x.count(what), counts[what]);
        }
        finds(x, "kept towns go", x.on(0), NOTHING);
        x.put(3, 6, 57);
        tells(x, "a text changed later", x.house(0, 1), 0);
    }

    // 12
    private static void houses() {
        WokenYears x = in(SIX);
        int[] kinds = {0, 1, 2, 3, 4, 5};
        int[] more = {2, 4, 1, NONE, 5, 2};
        for (int i = 0; i < 6; i++) {
            tells(x, "kind", x.house(i, 0), kinds[i]);
            tells(x, "tapped", x.house(i, 3), 0);
            tells(x, "year", x.house(i, 4), NONE);
            tells(x, "taps more", x.house(i, 5), more[i]);
        }
        tells(x, "date", x.house(0, 1), 32);
        tells(x, "minute", x.house(0, 2), 9);
        tap(x, 1);
        tells(x, "tapped", x.house(0, 3), 1);
        tells(x, "taps more", x.house(0, 5), 1);
        tap(x, 1);
        tells(x, "year", x.house(0, 4), 32);
        tells(x, "awake", x.house(0, 5), 0);
        x.slate(0, 45);
        x.frost(1);
        tells(x, "awake, though the date can't be woken now", x.house(0, 5), 0);
        tells(x, "frozen", x.house(1, 5), NONE);
        tells(x, "frost is of no matter of a mill", x.house(5, 5), 2);
        x.walk(1);
        tap(x, 6);
        tells(x, "asleep still", x.house(1, 4), NONE);
        x.frost(0);
        tells(x, "one tap at least", x.house(1, 5), 1);
        due("house(6, 0)", x.house(6, 0), BAD);
        due("house(-1, 0)", x.house(-1, 0), BAD);
        due("house(0, 6)", x.house(0, 6), BAD);
        due("house(0, -1)", x.house(0, -1), BAD);
        due("house(MAX, MIN)", x.house(MAX, MIN), BAD);
    }

    // 13
    private static void marks() {
        WokenYears x = in(SIX);
        due("heavy", x.mark(1, 1), 2);
        due("an infant as a heavy one", x.mark(4, 1), 3);
        due("rich", x.mark(2, 2), 1);
        due("a mill as a rich one", x.mark(5, 2), 4);
        due("dead", x.mark(3, 3), 0);
        due("infant", x.mark(4, 4), 5);
        due("mill", x.mark(5, 5), 2);
        boolean[][] are = new boolean[6][6];
        are[1][1] = are[4][1] = are[2][2] = are[5][2] = are[3][3] = are[4][4] = are[5][5] = true;
        int unlike = 0;
        for (int i = 0; i < 6; i++) {
            for (int kind = 1; kind <= 5; kind++) {
                if (!are[i][kind]) {
                    finds(x, "mark(" + i + ", " + kind + ")", x.mark(i, kind), UNLIKE);
                    unlike++;
                }
            }
        }
        due("findings(UNLIKE)", x.findings(UNLIKE), unlike);
        x.slate(1, 50);
        x.slate(4, 99);
        due("heavy, of a light date", x.mark(1, 1), 1);
        due("infant, of a light date, as a heavy one", x.mark(4, 1), 2);
        due("infant, of a light date", x.mark(4, 4), 3);
        x.slate(0, 44);
        due("mill: as early is not earlier", x.mark(5, 5), 0);
        x.slate(0, 43);
        due("mill", x.mark(5, 5), 1);
        tap(x, 2);
        x.walk(2);
        x.tap();
        due("dead: two are awake", x.mark(3, 3), 2);
        x.slate(1, 40);
        x.slate(4, 49);
        x.frost(1);
        due("heavy in frost", x.mark(1, 1), NONE);
        due("infant in frost", x.mark(4, 4), NONE);
        due("infant in frost, as a heavy one", x.mark(4, 1), NONE);
        x.slate(1, 39);
        due("heavy, 39 in frost", x.mark(1, 1), 2);
        due("kind 0", x.mark(0, 0), BAD);
        due("kind 6", x.mark(0, 6), BAD);
        due("no house", x.mark(6, 1), BAD);
        due("no house", x.mark(-1, 1), BAD);
    }

    // 14
    private static void walks() {
        WokenYears x = in(SIX);
        due("walk(0): she is there", x.walk(0), STATE);
        due("walk(5)", x.walk(5), 5);
        due("walk(3)", x.walk(3), 7);
        due("where she stands", x.count(4), 3);
        due("the minute", x.count(1), 7);
        due("deeds", x.count(3), 2);
        due("walk(6)", x.walk(6), BAD);
        due("walk(-1)", x.walk(-1), BAD);
        for (int k = 0; k < 38; k++) {
            due("to and fro", x.walk(3 + (k + 1) % 2), 8 + k);
        }
        due("walk is full", x.walk(0), FULL);
        due("STATE ahead of FULL", x.walk(3), STATE);
        due("BAD ahead of FULL", x.walk(6), BAD);
        due("tap is full", x.tap(), FULL);
        due("slate is full", x.slate(0, 1), FULL);
        due("slate: STATE ahead of FULL", x.slate(0, 32), STATE);
        due("slate: BAD ahead of FULL", x.slate(0, 100), BAD);
        due("frost is full", x.frost(1), FULL);
        due("frost: STATE ahead of FULL", x.frost(0), STATE);
        due("frost: BAD ahead of FULL", x.frost(2), BAD);
        due("night is full", x.night(), FULL);
        due("lots is full", x.lots(1, 1), FULL);
        due("deeds", x.count(3), 40);
        due("undo one", x.undo(39), 1);
        due("room again", x.tap(), 0);
        x.undo(39);
        due("a slate is the last deed", x.slate(0, 1), 32);
        x.undo(39);
        due("frost is the last deed", x.frost(1), 1);
        x.undo(39);
        due("night is the last deed", x.night(), 0);
        x.undo(39);
        CHECKS.that("a lot is the last deed", x.lots(1, 1) >= 0);
        due("deeds", x.count(3), 40);
    }

    // 15
    private static void taps() {
        WokenYears x = in("s010 r4000 m4900 v9900 i0000");
        due("tap", x.tap(), 0);
        due("purse", x.count(7), 0);
        due("tap: awake", x.tap(), 1);
        due("purse", x.count(7), 2);
        due("tap: awake still", x.tap(), 1);
        tells(x, "tapped on", x.house(0, 3), 3);
        due("it pays once", x.count(7), 2);
        due("the minute", x.count(1), 3);
        x.frost(1);
        x.walk(1);
        tap(x, 1);
        due("a mill in frost", x.tap(), 1);
        due("purse", x.count(7), 7);
        x.walk(2);
        due("heavy", x.tap(), 0);
        due("heavy: awake", x.tap(), 1);
        x.walk(3);
        for (int k = 0; k < 4; k++) {
            due("infant", x.tap(), 0);
        }
        due("infant: awake", x.tap(), 1);
        due("purse", x.count(7), 9);
        due("who are awake", x.count(6), 15);
        WokenYears dead = in("s010 d9999");
        tap(dead, 9);
        due("a dead one is never woken", dead.tap(), 0);
        due("tapped all the same", dead.house(0, 3), 1);
        due("ten times", dead.asked(), 10);
        WokenYears cold = in("s110 h4999");
        tap(cold, 3);
        due("not in frost", cold.tap(), 0);
        cold.frost(0);
        due("not by frost's going alone", cold.count(6), 0);
        due("by the next tap", cold.tap(), 1);
        WokenYears changed = in("s010 h9999");
        changed.slate(0, 20);
        due("as many as its date takes", changed.tap(), 0);
        changed.slate(0, 60);
        tells(changed, "tapped 0 times then", changed.house(0, 3), 0);
        due("tap", changed.tap(), 1);
        tells(changed, "the year", changed.house(0, 4), 60);
    }

    // 16
    private static void slates() {
        WokenYears x = in(SIX);
        due("slate", x.slate(0, 0), 32);
        due("slate", x.slate(0, 99), 0);
        due("it is that", x.slate(0, 99), STATE);
        due("100", x.slate(0, 100), BAD);
        due("-1", x.slate(0, -1), BAD);
        due("no house", x.slate(6, 1), BAD);
        due("no house", x.slate(-1, 1), BAD);
        due("deeds", x.count(3), 2);
        due("a tap", x.tap(), 1);
        due("slate of one awake", x.slate(0, 10), 99);
        tells(x, "it stays so", x.house(0, 5), 0);
        tells(x, "with its year", x.house(0, 4), 99);
        tells(x, "tapped 0 times", x.house(0, 3), 0);
        tells(x, "the date", x.house(0, 1), 10);
        due("no minute goes", x.count(1), 1);
    }

    // 17
    private static void frosts() {
        WokenYears x = in(SIX);
        due("there is none", x.frost(0), STATE);
        due("it comes", x.frost(1), 1);
        due("there is some", x.frost(1), STATE);
        due("count", x.count(5), 1);
        due("it goes", x.frost(0), 0);
        due("count", x.count(5), 0);
        due("2", x.frost(2), BAD);
        due("-1", x.frost(-1), BAD);
        due("deeds", x.count(3), 2);
        due("no minute goes", x.count(1), 0);
    }

    // 18
    private static void nights() {
        WokenYears x = in(SIX);
        due("none awake", x.night(), 0);
        tap(x, 2);
        x.walk(2);
        x.tap();
        x.frost(1);
        x.slate(1, 7);
        due("two awake", x.night(), 2);
        due("the night", x.count(2), 2);
        due("the minute", x.count(1), 0);
        due("where she stands", x.count(4), 0);
        due("all asleep", x.count(6), 0);
        due("the purse stays", x.count(7), 3);
        due("frost stays", x.count(5), 1);
        tells(x, "slates stay", x.house(1, 1), 7);
        tells(x, "tapped 0 times", x.house(0, 3), 0);
        due("deeds", x.count(3), 8);
        tap(x, 1);
        due("woken again", x.tap(), 1);
        due("it pays again", x.count(7), 4);
    }

    // 19
    private static void undone() {
        WokenYears x = in(SIX);
        long first = x.digest();
        tap(x, 2);
        x.walk(2);
        x.tap();
        x.slate(0, 77);
        x.frost(1);
        long then = x.digest();
        x.night();
        x.walk(4);
        due("undo none", x.undo(8), 0);
        due("undo(9)", x.undo(9), BAD);
        due("undo(-1)", x.undo(-1), BAD);
        due("undo(6)", x.undo(6), 2);
        due("as it was", x.digest(), then);
        due("undo(5): frost", x.undo(5), 1);
        due("no frost", x.count(5), 0);
        due("undo(4): the slate", x.undo(4), 1);
        tells(x, "the date", x.house(0, 1), 32);
        tells(x, "tapped", x.house(0, 3), 2);
        due("undo(0)", x.undo(0), 4);
        due("as at first", x.digest(), first);
        due("the purse", x.count(7), 0);
        due("undo(0) again", x.undo(0), 0);
        x.lots(20, 1);
        due("undo lots", x.undo(0), 20);
        due("as at first", x.digest(), first);
    }

    // 20, 21
    private static void keptTowns() {
        WokenYears x = in(SIX);
        due("keep at first", x.keep(2), 0);
        tap(x, 2);
        x.slate(0, 50);
        due("keep", x.keep(0), 3);
        due("two kept", x.count(12), 2);
        x.night();
        x.frost(1);
        due("on", x.on(0), 3);
        due("the year is back", x.house(0, 4), 1);
        due("the year is back", x.asked(), 32);
        due("no frost", x.count(5), 0);
        due("the night", x.count(2), 0);
        due("its deeds can be undone", x.undo(1), 2);
        tells(x, "tapped once", x.house(0, 3), 1);
        due("the kept one stays", x.on(0), 3);
        due("on(2)", x.on(2), 0);
        due("as at first", x.count(1), 0);
        due("keep over", x.keep(0), 0);
        due("on", x.on(0), 0);
        finds(x, "on(1)", x.on(1), NOTHING);
        due("on(3)", x.on(3), BAD);
        due("on(-1)", x.on(-1), BAD);
        due("keep(3)", x.keep(3), BAD);
        due("keep(-1)", x.keep(-1), BAD);
        due("two kept", x.count(12), 2);
    }

    // 22 to 24
    private static void whatDatesTake() {
        WokenYears x = in(SIX);
        int[][] mild = {{2, 2, 2, 1, 1}, {4, 4, 4, 2, 2}, {2, 2, 2, 1, 1},
            {NONE, NONE, NONE, NONE, NONE}, {5, 5, 5, 3, 3}, {2, 2, 2, 1, 1}};
        int[] pays = {1, 1, 2, 0, 1, 5};
        int[] dates = {0, 39, 49, 50, 99};
        for (int i = 0; i < 6; i++) {
            due("pays(" + i + ")", x.pays(i), pays[i]);
            for (int k = 0; k < 5; k++) {
                due("takes(" + i + ", " + dates[k] + ")", x.takes(i, dates[k]), mild[i][k]);
            }
        }
        due("who, 2 taps, of an early date", x.who(0, 2), 1 + 4 + 32);
        due("who, 4 taps", x.who(49, 4), 2);
        due("who, 5 taps", x.who(40, 5), 16);
        due("who, 1 tap", x.who(50, 1), 1 + 4 + 32);
        due("who, 3 taps", x.who(99, 3), 16);
        due("who, 9 taps", x.who(99, 9), 0);
        x.frost(1);
        for (int i = 0; i < 6; i++) {
            due("in frost 40", x.takes(i, 40), i == 5 ? 2 : NONE);
            due("in frost 49", x.takes(i, 49), i == 5 ? 2 : NONE);
            due("in frost 39", x.takes(i, 39), mild[i][1]);
            due("in frost 50", x.takes(i, 50), mild[i][3]);
        }
        due("who in frost", x.who(45, 2), 32);
        due("takes(6, 0)", x.takes(6, 0), BAD);
        due("takes(-1, 0)", x.takes(-1, 0), BAD);
        due("takes(0, 100)", x.takes(0, 100), BAD);
        due("takes(0, -1)", x.takes(0, -1), BAD);
        due("pays(6)", x.pays(6), BAD);
        due("pays(-1)", x.pays(-1), BAD);
        due("who(100, 1)", x.who(100, 1), BAD);
        due("who(-1, 1)", x.who(-1, 1), BAD);
        due("who(0, 0)", x.who(0, 0), BAD);
        due("who(0, 10)", x.who(0, 10), BAD);
    }

    // 25
    private static void quarrels() {
        WokenYears x = in("s010 r5000 r6000 r7100 r8200");
        due("all asleep", x.quarrels(), 0);
        x.tap();
        x.walk(1);
        x.tap();
        due("as far as told is no quarrel", x.quarrels(), 0);
        x.walk(3);
        x.tap();
        due("no neighbours", x.quarrels(), 0);
        x.walk(2);
        x.tap();
        due("both sides", x.quarrels(), 2);
        x.slate(2, 60);
        due("the years that they have, not the slates", x.quarrels(), 2);
        x.night();
        due("night", x.quarrels(), 0);
        due("one house", in("s000 h9900").quarrels(), 0);
        WokenYears first = in("s010 r5000 r6100");
        first.tap();
        first.walk(1);
        first.tap();
        due("the first two", first.quarrels(), 1);
    }

    // 26
    private static void soonest() {
        WokenYears x = in(SIX);
        due("none", x.soonest(0), 0);
        due("the first", x.soonest(1), 2);
        due("the last", x.soonest(32), 7);
        due("all but the dead one", x.soonest(55), 19);
        due("with the dead one", x.soonest(8), STATE);
        due("another house", x.soonest(64), BAD);
        due("below 0", x.soonest(-1), BAD);
        due("MIN", x.soonest(MIN), BAD);
        x.walk(4);
        due("the nearer end first", x.soonest(33), 1 + 5 + 2 + 2);
        x.walk(2);
        due("the nearer end first", x.soonest(2 + 16), 1 + 3 + 4 + 5);
        x.walk(1);
        due("the nearer end first", x.soonest(33), 1 + 5 + 2 + 2);
        due("in between", x.soonest(2), 4);
        x.tap();
        due("tapped once", x.soonest(2), 3);
        due("BAD ahead of STATE", x.soonest(8 + 64), BAD);
        tap(x, 3);
        due("awake", x.soonest(2), STATE);
        x.frost(1);
        due("frozen", x.soonest(16), STATE);
        due("a mill", x.soonest(32), 6);
        x.walk(0);
        tap(x, 2);
        due("the first is awake", x.soonest(1), STATE);
    }

    // 27
    private static void inTime() {
        WokenYears x = in(SIX);
        due("none", x.intime(0, 1), 0);
        isRow(x, 1);
        due("the nearest is not the first", x.intime(6, 1), 8);
        isRow(x, 1, 2, 1);
        due("five", x.intime(55, 1), 21);
        isRow(x, 1, 0, 2, 1, 4, 5);
        x.walk(5);
        x.walk(0);
        due("too late", x.intime(1, 1), NONE);
        isRow(x, 1, 0, 2, 1, 4, 5);
        due("too late: a missing row stays so", x.intime(1, 2), NONE);
        finds(x, "missing", x.at(2, 0), NOTHING);
        due("the dead one", x.intime(8, 1), STATE);
        due("row 6", x.intime(8, 6), BAD);
        due("row -1", x.intime(0, -1), BAD);
        due("another house", x.intime(64, 1), BAD);
        due("below 0", x.intime(-1, 1), BAD);

        WokenYears edge = in("s010 h9901 h9903 h9900");
        due("awake at its minute's end", edge.intime(1, 0), 1);
        due("both", edge.intime(3, 0), 3);
        due("minute 00 is gone by a tap", edge.intime(4, 0), NONE);
        edge.slate(1, 0);
        due("one too late", edge.intime(3, 0), NONE);
        due("alone", edge.intime(2, 0), 3);

        WokenYears alike = in("s010 h9999 d9999 h9999 d9999 h9999");
        alike.walk(2);
        due("the first order of as soon ones", alike.intime(1 + 16, 0), 2 + 1 + 4 + 1);
        isRow(alike, 0, 0, 4);
        due("in between on the way", alike.intime(21, 0), 9);
        isRow(alike, 0, 0, 2, 4);
        WokenYears middle = in("s010 h9999 h9999 h9999");
        middle.walk(1);
        due("the middle one first as soon as behind", middle.intime(7, 0), 6);
        isRow(middle, 0, 0, 1, 2);
    }

    // 28
    private static void many() {
        WokenYears x = in(SIX);
        due("five", x.many(), 5);
        due("all but the dead one", x.asked(), 55);
        x.walk(3);
        due("four", x.many(), 4);
        due("which", x.asked(), 53);
        WokenYears late = in("s010 h9900 r9900");
        due("none", late.many(), 0);
        due("which", late.asked(), 0);
        WokenYears one = in("s010 d9999 h9902 h9903 h9905");
        due("two of three", one.many(), 2);
        due("of as many the least number", one.asked(), 2 + 8);
        WokenYears least = in("s010 h9902 d9900 d9900 h9904");
        due("one of two", least.many(), 1);
        due("the least number", least.asked(), 1);
        least.tap();
        due("who is awake is none of them", least.many(), 0);
        WokenYears cold = in("s110 h4599 m4599");
        due("a mill in frost", cold.many(), 1);
        due("which", cold.asked(), 2);
    }

    // 29
    private static void dates() {
        WokenYears x = in(SIX);
        due("how far", x.dates(2), 67);
        isRow(x, 2, 0, 4, 5, 1, 3, 2);
        WokenYears down = in("s010 h9000 h8000 h1000 h8000");
        due("how far", down.dates(0), 80);
        isRow(down, 0, 0, 1, 3, 2);
        due("one house", in("s010 h5500").dates(0), 0);
        WokenYears same = in("s010 h5500 v5500 r5500");
        due("the same dates", same.dates(5), 0);
        isRow(same, 5, 0, 1, 2);
        same.slate(2, 10);
        due("the slates as they are", same.dates(5), 45);
        isRow(same, 5, 0, 1, 2);
        same.slate(0, 11);
        due("from the end", same.dates(5), 45);
        isRow(same, 5, 1, 0, 2);
        due("row 6", same.dates(6), BAD);
        due("row -1", same.dates(-1), BAD);
        due("BAD ahead of STATE", new WokenYears().dates(6), BAD);
    }

    // 30, 31
    private static void whoseAndKinds() {
        WokenYears x = in("s010 h3209 h3209 v4512 m1111");
        rowOf(x, 0, 10, 2, 50, 1);
        due("whose", x.whose(0), 1 + 2 + 8);
        due("kinds", x.kinds(0), 1 + 4 + 32);
        rowOf(x, 0, 45, 0);
        due("whose can't be woken", x.whose(0), 0);
        due("the dead one", x.kinds(0), 8);
        x.frost(1);
        due("whose in frost", x.whose(0), 7);
        due("kinds in frost", x.kinds(0), 31);
        rowOf(x, 0, 10, 4, 10, 5);
        due("none", x.whose(0), 0);
        due("none", x.kinds(0), 0);
        x.row(0, 0);
        due("no pairs: any", x.whose(0), 15);
        due("no pairs: any", x.kinds(0), 63);
        rowOf(x, 0, 0, 2, 0, 2, 0, 2, 0, 2, 0, 2, 0, 2, 0, 2, 99, 1);
        due("eight pairs", x.whose(0), 1 + 2 + 8);
        due("eight pairs", x.kinds(0), 37);
        due("eight pairs", x.test(0), 40);
        for (int which = 0; which < 3; which++) {
            due("row 6", pairs(x, which, 6), BAD);
            due("row -1", pairs(x, which, -1), BAD);
            finds(x, "missing", pairs(x, which, 4), NOTHING);
            x.row(1, 1);
            finds(x, "odd", pairs(x, which, 1), SIZE);
            x.row(1, 18);
            finds(x, "nine pairs", pairs(x, which, 1), SIZE);
            rowOf(x, 1, 100, 1, 3);
            finds(x, "SIZE ahead of UNLIKE", pairs(x, which, 1), SIZE);
            rowOf(x, 1, 100, 1);
            finds(x, "date 100", pairs(x, which, 1), UNLIKE);
            rowOf(x, 1, -1, 1);
            finds(x, "date -1", pairs(x, which, 1), UNLIKE);
            rowOf(x, 1, 10, 5, 10, 10);
            finds(x, "took 10", pairs(x, which, 1), UNLIKE);
            rowOf(x, 1, 10, -1);
            finds(x, "took -1", pairs(x, which, 1), UNLIKE);
            rowOf(x, 1, 10, 9);
            due("took 9", pairs(x, which, 1), which == 2 ? NONE : 0);
        }
    }

    private static int pairs(WokenYears x, int which, int r) {
        return which == 0 ? x.whose(r) : which == 1 ? x.kinds(r) : x.test(r);
    }

    // 32
    private static void tests() {
        WokenYears x = in(SIX);
        x.row(0, 0);
        due("of all kinds the first date does", x.test(0), 0);
        due("three take as many", x.asked(), 3);
        x.frost(1);
        rowOf(x, 0, 10, 2);
        due("a house, a rich one, or a mill", x.test(0), 40);
        due("two are left alike", x.asked(), 2);
        x.frost(0);
        due("without frost nothing tells them apart", x.test(0), 0);
        due("three", x.asked(), 3);
        rowOf(x, 0, 10, 9);
        x.at(0, 1);
        due("no kind", x.test(0), NONE);
        due("asked() stays", x.asked(), 9);
    }

    // 33, 34
    private static void setsAndSure() {
        WokenYears x = in(SIX);
        ratio(x, "sets(0)", x.sets(0), 2, 1);
        due("the set of none", x.asked(), 0);
        ratio(x, "sets(1)", x.sets(1), 6, 1);
        due("the first", x.asked(), 1);
        ratio(x, "sets(10)", x.sets(10), 2, 1);
        due("the first", x.asked(), 55);
        ratio(x, "sets(11)", x.sets(11), 0, 1);
        due("none", x.asked(), NONE);
        ratio(x, "sets(99)", x.sets(99), 0, 1);
        due("sets(100)", x.sets(100), BAD);
        due("sets(-1)", x.sets(-1), BAD);
        due("sure(9)", x.sure(9), 36);
        due("in none", x.asked(), 0);
        due("sure(0)", x.sure(0), 0);
        due("in none", x.asked(), 55);
        due("sure(10)", x.sure(10), 55);
        due("in none", x.asked(), 0);
        finds(x, "sure(11)", x.sure(11), NOUGHT);
        due("asked() stays", x.asked(), 0);
        finds(x, "sure(99)", x.sure(99), NOUGHT);
        due("sure(100)", x.sure(100), BAD);
        due("sure(-1)", x.sure(-1), BAD);
        due("BAD ahead of STATE", new WokenYears().sure(100), BAD);
        due("BAD ahead of STATE", new WokenYears().sets(-1), BAD);
        due("upper() stays", x.upper(), 0);
    }

    // 35
    private static void duels() {
        WokenYears x = in(SIX);
        tells(x, "duel(0)", x.duel(0), 0);
        tells(x, "duel(1)", x.duel(1), 1);
        tells(x, "duel(2)", x.duel(2), 0);
        tells(x, "duel(3)", x.duel(3), 1);
        x.walk(5);
        tap(x, 2);
        tells(x, "one is awake", x.duel(0), -1);
        tells(x, "one is awake", x.duel(1), 0);
        x.walk(0);
        tap(x, 1);
        tells(x, "one is tapped", x.duel(2), 1);
        due("duel(4)", x.duel(4), BAD);
        due("duel(-1)", x.duel(-1), BAD);
        due("BAD ahead of STATE", new WokenYears().duel(4), BAD);
        WokenYears odd = in("s010 d0000 h9900 d0000 h9900 v0000 h9900");
        tells(odd, "three at once", odd.duel(3), -3);
    }

    // 36, 37
    private static void oddsAndMid() {
        WokenYears x = in(SIX);
        ratio(x, "two of two heard by a half", x.odds(0, 2, 6), 1, 4);
        ratio(x, "the mean then", x.mid(0, 2, 6), 1, 1);
        ratio(x, "one of one heard by 5 of 12", x.odds(2, 1, 5), 5, 12);
        ratio(x, "the mean then", x.mid(2, 1, 5), 7, 12);
        ratio(x, "none heard", x.odds(0, 8, 0), 0, 1);
        ratio(x, "none heard", x.mid(4, 8, 0), 5, 1);
        ratio(x, "all heard", x.odds(4, 5, 12), 1, 1);
        ratio(x, "all heard, one too few", x.odds(4, 4, 12), 0, 1);
        ratio(x, "all heard, one too few", x.mid(4, 4, 12), 1, 1);
        ratio(x, "all heard, and more", x.mid(4, 8, 12), 0, 1);
        ratio(x, "no taps", x.odds(0, 0, 12), 0, 1);
        ratio(x, "no taps", x.mid(0, 0, 12), 2, 1);
        ratio(x, "one at least of eight by 1 of 12", x.odds(2, 8, 1), 429981696L - 214358881L, 429981696L);
        ratio(x, "the dead one", x.odds(3, 8, 12), 0, 1);
        finds(x, "the dead one", x.mid(3, 8, 12), NOUGHT);
        tap(x, 1);
        ratio(x, "from as it is", x.odds(0, 1, 3), 1, 4);
        tap(x, 1);
        x.slate(0, 45);
        x.frost(1);
        ratio(x, "awake", x.odds(0, 0, 0), 1, 1);
        ratio(x, "awake", x.mid(0, 0, 0), 0, 1);
        ratio(x, "frozen", x.odds(4, 8, 12), 0, 1);
        finds(x, "frozen", x.mid(4, 8, 12), NOUGHT);
        int[][] wrong = {{6, 0, 0}, {-1, 0, 0}, {0, 9, 0}, {0, -1, 0}, {0, 0, 13}, {0, 0, -1}, {3, 0, 13}};
        for (int[] w : wrong) {
            due("odds", x.odds(w[0], w[1], w[2]), BAD);
            due("mid", x.mid(w[0], w[1], w[2]), BAD);
        }
        due("upper() stays", x.upper(), 0);
        due("lower() stays", x.lower(), 1);
    }

    // 38
    private static void lots() {
        WokenYears x = in("s010 h0099 h0099");
        // 48271: by 8 6033, modulo 8 it is 1: a walk to 48271 modulo 2
        due("one deed", x.lots(1, 1), 0);
        due("where she stands", x.count(4), 1);
        due("the minute", x.count(1), 1);
        // 182605794: by 8 22825724, modulo 8 it is 4: a tap
        due("two deeds", x.lots(2, 1), 0);
        due("a walk to where she is, and a tap", x.count(3), 3);
        due("the minute", x.count(1), 2);
        tells(x, "tapped", x.house(1, 3), 1);
        x.undo(0);
        // from 16: 772336, by 8 96542, modulo 8 it is 6: the slate of 0 is changed to 12067 modulo 100
        due("a slate", x.lots(1, 16), 0);
        tells(x, "the date", x.house(0, 1), 67);
        x.slate(0, 67 - 1);
        x.slate(0, 67);
        x.tap();
        due("how many are awake then", x.lots(1, 16), 1);
        tells(x, "perhaps the same date: tapped 0 times", x.house(0, 3), 0);
        x.undo(0);
        // from 4: 193084, by 8 24135, modulo 8 it is 7: frost
        due("frost", x.lots(1, 4), 0);
        due("it comes", x.count(5), 1);
        due("frost", x.lots(1, 4), 0);
        due("it goes", x.count(5), 0);
        // what each of the eight sorts does to where she stands, to the minute, to the frost
        int[] seeds = {9, 1, 10, 2, 11, 3, 16, 4};
        due("sorts", seeds.length, 8);
        for (int sort = 0; sort < 8; sort++) {
            x.undo(0);
            long lot = seeds[sort] * 48271L;
            due("the lot of " + seeds[sort], lot / 8 % 8, sort);
            x.lots(1, seeds[sort]);
            boolean taps = sort >= 2 && sort <= 5;
            due("a tap by sort " + sort, x.house(0, 3), 1);
            due("a tap by sort " + sort, x.asked(), taps ? 1 : 0);
            due("a walk by sort " + sort, x.count(4), sort <= 1 ? lot % 2 : 0);
            due("frost by sort " + sort, x.count(5), sort == 7 ? 1 : 0);
            tells(x, "a slate by sort " + sort, x.house((int) (lot % 2), 1), sort == 6 ? (int) (lot / 64 % 100) : 0);
        }
        x.undo(0);
        due("lots(0, 1)", x.lots(0, 1), BAD);
        due("lots(21, 1)", x.lots(21, 1), BAD);
        due("lots(1, 0)", x.lots(1, 0), BAD);
        due("lots(1, MAX)", x.lots(1, MAX), BAD);
        due("lots(1, MIN)", x.lots(1, MIN), BAD);
        due("BAD ahead of STATE", new WokenYears().lots(0, 1), BAD);
        x.undo(0);
        CHECKS.that("the greatest seed", x.lots(20, MAX - 1) >= 0);
        due("room for one less", x.walk(1 - x.count(4)) > 0 ? 1 : 0, 1);
        due("full", x.lots(20, 5), FULL);
        due("BAD ahead of FULL", x.lots(21, 5), BAD);
        due("nothing is done then", x.count(3), 21);
        CHECKS.that("as many as there is room for", x.lots(19, 5) >= 0);
        due("40 deeds", x.count(3), 40);
    }

    // 39 to 42
    private static void told() {
        WokenYears x = in(SIX);
        rowOf(x, 0, 5, 6);
        x.at(0, 1);
        due("at()", x.asked(), 6);
        x.lay(0, 0, 9);
        due("lay()", x.asked(), 5);
        x.mean(0);
        due("mean()", x.asked(), 7);
        x.at(0, 2);
        x.at(6, 0);
        x.house(6, 0);
        x.test(0);
        x.duel(9);
        x.sure(11);
        due("asked() stays by what is refused", x.asked(), 7);
        x.odds(0, 2, 6);
        x.takes(0, 0);
        x.digest();
        x.dates(1);
        x.intime(1, 1);
        due("asked() stays by other calls", x.asked(), 7);
        x.odds(9, 2, 6);
        x.mid(3, 0, 0);
        due("upper() stays by what is refused", x.upper(), 1);
        due("lower() stays by what is refused", x.lower(), 4);
        x.sets(1);
        due("upper() by sets()", x.upper(), 6);
        due("lower() by sets()", x.lower(), 1);

        tap(x, 2);
        x.night();
        x.walk(2);
        x.tap();
        x.frost(1);
        x.keep(1);
        int[] counts = {6, 3, 1, 6, 2, 1, 4, 3, 2, 2, 2, 1, 1, 10};
        for (int what = 0; what <= 13; what++) {
            due("count(" + what + ")", x.count(what), counts[what]);
        }
        due("count(14)", x.count(14), BAD);
        due("count(-1)", x.count(-1), BAD);
        due("count(MIN)", x.count(MIN), BAD);
    }

    // 43, 44
    private static void findings() {
        WokenYears x = new WokenYears();
        x.at(0, 0);
        x.tear(1);
        x.row(0, 0);
        due("NOTHING", x.finding(), NOTHING);
        x.at(0, 0);
        due("BEYOND", x.finding(), BEYOND);
        x.row(0, -1);
        due("SIZE", x.finding(), SIZE);
        x.mean(0);
        due("NOUGHT", x.finding(), NOUGHT);
        rowOf(x, 0, 100, 0);
        x.kinds(0);
        due("UNLIKE", x.finding(), UNLIKE);
        x.row(9, 0);
        x.tap();
        due("it stays by other refusals", x.finding(), UNLIKE);
        int[] often = {2, 1, 1, 1, 1};
        for (int f = 1; f <= 5; f++) {
            due("findings(" + f + ")", x.findings(f), often[f - 1]);
        }
        due("findings(0)", x.findings(0), BAD);
        due("findings(6)", x.findings(6), BAD);
        due("findings(MIN)", x.findings(MIN), BAD);
    }

    // 45
    private static void digests() {
        WokenYears x = new WokenYears();
        long h = 17;
        for (int k = 0; k < 14; k++) {
            h = 31 * h;
        }
        for (int k = 0; k < 3 + 6 + 4; k++) {
            h = 31 * h - 1;
        }
        due("digest() of a new object", x.digest(), h);
        write(x, 1, "s107 m4312");
        x.put(1, 0, -5);
        x.put(1, 0, 115);
        x.town(1);
        x.walk(9);
        x.tap();
        x.keep(1);
        x.tap();
        rowOf(x, 3, -4, 5);
        x.at(3, 1);
        int[] due = {1, 2, 0, 2, 0, 1, 1, 5, 0, 1, 1, 1, 1, 7,
            5, 43, 12, 2, 43, 0,
            -1, 1, -1,
            -1, -1, -1, 2, -4, 5, -1, -1,
            -1, 10, 115, 49, 48, 55, 32, 109, 52, 51, 49, 50, -1, -1};
        h = 17;
        for (int v : due) {
            h = 31 * h + v;
        }
        due("digest()", x.digest(), h);
        due("digest() again", x.digest(), h);
        due("asked() stays", x.asked(), 5);
    }
}
