import java.util.List;
import java.util.function.ToLongFunction;

/** The edges of what is told, and of what is refused: promises 39 to 45, and what the terms say of answers. */
final class ToldEdges extends Edges {
    static void all() {
        calls();
        refusedInOrder();
        refusedChangesNothing();
        findingsTold();
        asked();
        ratios();
        count();
        findings();
        digest();
    }

    private static void calls() {
        edge(TERMS, "An object is used for at most 512 calls after it has been made;", () -> {
            WokenYears x = new WokenYears();
            due(x.text(0, 1), 1);
            int was = 32;
            for (int call = 2; call <= 512; call++) {
                due(x.put(0, 0, call), 1000 + was);
                was = (byte) call;
            }
            WokenYears dear = in("s010 h9999 h9999 h9999 h9999 h9999 h9999");
            for (int call = 44; call <= 512; call++) {
                due(dear.intime(63, 0), 11);
            }
        });
        edge(TERMS, "BAD -1 (a number that is none, or not as told), FULL -2, STATE -4 (not now), SPENT -6 (more than told), "
            + "FINDING -3 (finding() tells which), unless a call says so otherwise. NONE -9", () -> {
            due(WokenYears.BAD, -1);
            due(WokenYears.FULL, -2);
            due(WokenYears.FINDING, -3);
            due(WokenYears.STATE, -4);
            due(WokenYears.SPENT, -6);
            due(WokenYears.NONE, -9);
        });
    }

    private static void refusedInOrder() {
        edge(TERMS, "Refused is, the first of these that fits, in this order:", () -> {
            // BAD ahead of STATE
            List<ToLongFunction<WokenYears>> bad = List.of(x -> x.frost(2), x -> x.keep(3), x -> x.lots(0, 1), x -> x.lots(1, 0),
                x -> x.dates(6), x -> x.sets(100), x -> x.sure(100), x -> x.duel(4), x -> x.intime(1, 0), x -> x.soonest(1));
            for (ToLongFunction<WokenYears> call : bad) {
                refused(new WokenYears(), call, BAD);
            }
            // BAD ahead of what is found
            List<ToLongFunction<WokenYears>> found = List.of(x -> x.row(6, -1), x -> x.lay(6, -1, 0), x -> x.at(6, -1),
                x -> x.copy(6, -1, 0, -1, -1), x -> x.text(4, -1), x -> x.put(4, -1, 0), x -> x.mark(6, 1), x -> x.mark(0, 6),
                x -> x.on(3), x -> x.sure(-1), x -> x.mid(3, 9, 0), x -> x.whose(6), x -> x.kinds(-1), x -> x.test(6));
            for (ToLongFunction<WokenYears> call : found) {
                refused(busy(), call, BAD);
            }
            // what is found in the order in which it is told
            finds(busy(), x -> x.lay(2, -1, 0), NOTHING);
            finds(busy(), x -> x.at(2, 40), NOTHING);
            finds(busy(), x -> x.put(3, -1, 0), NOTHING);
        });
    }

    private static void refusedChangesNothing() {
        edge(TERMS, "What is refused changes nothing but finding(), findings().", () -> {
            List<ToLongFunction<WokenYears>> bad = List.of(x -> x.row(0, 41), x -> x.lay(-1, 0, 9), x -> x.at(-1, 0), x -> x.tear(6),
                x -> x.copy(0, 0, 6, 0, 1), x -> x.mean(6), x -> x.text(0, 61), x -> x.put(4, 0, 9), x -> x.fault(4), x -> x.town(4),
                x -> x.house(0, 6), x -> x.mark(0, 0), x -> x.walk(6), x -> x.slate(0, 100), x -> x.frost(2), x -> x.undo(5),
                x -> x.keep(3), x -> x.on(3), x -> x.takes(0, 100), x -> x.pays(6), x -> x.who(0, 0), x -> x.soonest(64),
                x -> x.intime(0, 6), x -> x.dates(6), x -> x.whose(6), x -> x.kinds(6), x -> x.test(6), x -> x.sets(100),
                x -> x.sure(100), x -> x.duel(4), x -> x.odds(0, 9, 0), x -> x.mid(0, 0, 13), x -> x.lots(21, 1),
                x -> x.count(14), x -> x.findings(0));
            for (ToLongFunction<WokenYears> call : bad) {
                refused(busy(), call, BAD);
            }
            List<ToLongFunction<WokenYears>> fits = List.of(x -> x.town(1), x -> x.walk(2), x -> x.slate(1, 47), x -> x.frost(0),
                x -> x.soonest(9), x -> x.intime(9, 0));
            for (ToLongFunction<WokenYears> call : fits) {
                refused(busy(), call, STATE);
            }
            List<ToLongFunction<WokenYears>> more = List.of(x -> x.walk(1), WokenYears::tap, x -> x.slate(0, 1), x -> x.frost(1),
                WokenYears::night, x -> x.lots(1, 1));
            for (ToLongFunction<WokenYears> call : more) {
                refused(full(), call, FULL);
            }
            WokenYears x = full();
            due(x.many(), 5);
            refused(x, y -> y.lots(2, 9), FULL);
            due(x.asked(), 55);
        });
    }

    private static void findingsTold() {
        edge(TERMS, "FINDINGS: 1 NOTHING (a ROW, a TEXT, a kept TOWN that is missing),", () -> {
            finds(busy(), x -> x.at(2, 0), NOTHING);
            finds(busy(), x -> x.put(3, 0, 1), NOTHING);
            finds(busy(), x -> x.on(1), NOTHING);
        });
        edge(TERMS, "2 BEYOND (a place of a ROW, a TEXT that there is not),", () -> {
            finds(busy(), x -> x.at(0, 3), BEYOND);
            finds(busy(), x -> x.put(1, 60, 1), BEYOND);
        });
        edge(TERMS, "3 UNLIKE (a HOUSE of another KIND; a number that is none),", () -> {
            finds(busy(), x -> x.mark(0, 5), UNLIKE);
            WokenYears x = busy();
            rowOf(x, 0, 100, 0);
            finds(x, y -> y.kinds(0), UNLIKE);
        });
        edge(TERMS, "4 NOUGHT (shared among none; nothing fits),", () -> {
            finds(busy(), x -> x.mean(1), NOUGHT);
            finds(busy(), x -> x.sure(98), NOUGHT);
        });
        edge(TERMS, "5 SIZE (fewer than none; too many, not as many as due).", () -> {
            finds(busy(), x -> x.row(0, -1), SIZE);
            finds(busy(), x -> x.text(0, -1), SIZE);
            finds(busy(), x -> x.copy(0, 0, 0, 0, -1), SIZE);
            finds(busy(), x -> x.whose(5), SIZE);
            finds(busy(), x -> x.whose(0), SIZE);
        });
    }

    private static void asked() {
        edge(39, "What the latest lay(), at(), mean(), house(), many(), test(), sets(), sure(), duel()", () -> {
            WokenYears x = busy();
            tells(x, x.lay(0, 1, 8), -5);
            tells(x, x.at(0, 1), 8);
            tells(x, x.mean(0), 6);
            tells(x, x.house(5, 1), 44);
            due(x.many(), 4);
            due(x.asked(), 2 + 4 + 16 + 32);
            due(x.test(1), 0);
            due(x.asked(), 3);
            tells(x, x.sets(0), 0);
            due(x.sure(0), 0);
            due(x.asked(), 55);
            tells(x, x.duel(0), 1);
        });
        edge(39, "that was not refused (nor NONE) told;", () -> {
            WokenYears x = busy();
            rowOf(x, 2, 0, 9);
            tells(x, x.sets(99), NONE);
            refused(x, y -> y.test(2), NONE);
            finds(x, y -> y.sure(99), NOUGHT);
            due(x.asked(), NONE);
        });
        edge(39, "0 before.", () -> {
            WokenYears x = new WokenYears();
            due(x.asked(), 0);
            due(x.at(0, 0), FINDING);
            due(x.row(0, 1), 1);
            due(x.asked(), 0);
        });
    }

    private static void ratios() {
        edge(40, "The upper number that was told last;", () -> {
            WokenYears x = busy();
            due(x.sets(1), 1);
            due(x.upper(), 6);
            due(x.odds(2, 1, 6), 1);
            due(x.upper(), 1);
            due(x.mid(4, 0, 0), 1);
            due(x.upper(), 5);
            due(x.sure(0), 0);
            due(x.duel(3), 1);
            due(x.upper(), 5);
            finds(x, y -> y.mid(3, 0, 0), NOUGHT);
        });
        edge(40, "0 before.", () -> due(new WokenYears().upper(), 0));
        edge(41, "Its lower number;", () -> {
            WokenYears x = busy();
            due(x.lower(), 16);
            due(x.sets(1), 1);
            due(x.lower(), 1);
            due(x.odds(2, 1, 5), 1);
            due(x.lower(), 12);
            due(x.mid(2, 8, 11), 1);
            due(x.lower(), 429981696);
            finds(x, y -> y.mid(3, 0, 0), NOUGHT);
        });
        edge(41, "1 before.", () -> due(new WokenYears().lower(), 1));
    }

    private static void counts(WokenYears x, int... counts) {
        for (int what = 0; what <= 13; what++) {
            due(x.count(what), counts[what]);
        }
    }

    private static void count() {
        edge(42, "0 HOUSES, 1 the MINUTE, 2 the NIGHT, 3 DEEDS, 4 where she stands, 5 whether there is FROST (1, 0), "
            + "6 HOUSES that are AWAKE (bits), 7 the PURSE, 8 HEAVY ones (INFANTS, too), 9 RICH ones (MILLS, too), "
            + "10 ROWS, 11 TEXTS that are there, 12 kept TOWNS, 13 by how many years neighbours QUARREL.", () -> {
            counts(new WokenYears(), new int[14]);
            counts(busy(), 6, 4, 0, 4, 2, 0, 1, 1, 2, 2, 3, 3, 1, 10);
            WokenYears x = in("s199 m9999 m9999 r9999 i9999 v9999 v9999");
            for (int r = 0; r <= 5; r++) {
                due(x.row(r, 0), 0);
            }
            for (int t = 1; t <= 3; t++) {
                due(x.text(t, 0), 0);
            }
            due(x.night(), 0);
            for (int i = 0; i < 6; i++) {
                if (i > 0) due(x.walk(i) > 0 ? 1 : 0, 1);
                tap(x, i == 3 ? 3 : i > 3 ? 2 : 1);
            }
            for (int k = 0; k <= 2; k++) {
                due(x.keep(k), 16);
            }
            counts(x, 6, 15, 1, 16, 5, 1, 63, 15, 3, 3, 6, 4, 3, 99);
            due(x.tear(5), 1);
            due(x.count(10), 5);
        });
        edge(42, "8 HEAVY ones (INFANTS, too), 9 RICH ones (MILLS, too),", () -> {
            due(in("s010 v0000 i0000 v0000 i0000 v0000 i0000").count(8), 6);
            due(in("s010 v0000 i0000 v0000 i0000 v0000 i0000").count(9), 0);
            due(in("s010 r0000 m0000 r0000 m0000 r0000 m0000").count(8), 0);
            due(in("s010 r0000 m0000 r0000 m0000 r0000 m0000").count(9), 6);
        });
        edge(42, "BAD.", () -> {
            for (int what : outside(0, 13)) {
                refused(busy(), x -> x.count(what), BAD);
                refused(new WokenYears(), x -> x.count(what), BAD);
            }
        });
    }

    private static void findings() {
        edge(43, "The latest FINDING (0 before any).", () -> {
            WokenYears x = new WokenYears();
            due(x.finding(), 0);
            due(x.row(6, 0), BAD);
            due(x.tap(), STATE);
            due(x.finding(), 0);
            due(x.row(0, -1), FINDING);
            due(x.finding(), SIZE);
            due(x.at(0, 0), FINDING);
            due(x.finding(), NOTHING);
            due(x.row(0, 0), 0);
            due(x.at(6, 0), BAD);
            due(x.finding(), NOTHING);
        });
        edge(44, "How often a FINDING (1 .. 5) was answered.", () -> {
            WokenYears x = new WokenYears();
            for (int f = 1; f <= 5; f++) {
                due(x.findings(f), 0);
            }
            for (int k = 1; k <= 300; k++) {
                due(x.tear(5), FINDING);
            }
            due(x.row(0, -1), FINDING);
            due(x.row(0, -1), FINDING);
            due(x.tear(6), BAD);
            int[] often = {300, 0, 0, 0, 2};
            for (int f = 1; f <= 5; f++) {
                due(x.findings(f), often[f - 1]);
            }
        });
        edge(44, "BAD.", () -> {
            for (int f : outside(1, 5)) {
                refused(busy(), x -> x.findings(f), BAD);
            }
        });
    }

    /** What digest() is due, by the calls that it names; what is kept, rows and texts as told. */
    private static long digestOf(WokenYears x, int... rest) {
        long h = 17;
        for (int what = 0; what <= 13; what++) {
            h = 31 * h + x.count(what);
        }
        int houses = x.count(0);
        for (int i = 0; i < houses; i++) {
            for (int what = 0; what <= 5; what++) {
                due(x.house(i, what), 1);
                h = 31 * h + x.asked();
            }
        }
        for (int v : rest) {
            h = 31 * h + v;
        }
        return h;
    }

    private static int[] joined(int[]... parts) {
        return java.util.Arrays.stream(parts).flatMapToInt(java.util.Arrays::stream).toArray();
    }

    private static void digest() {
        edge(45, "h = 17; then h = 31 h + v for each v", () -> {
            WokenYears x = new WokenYears();
            due(x.digest(), digestOf(x, times(13, -1)));
            due(x.row(5, 40), 40);
            due(x.lay(5, 0, MIN), 1);
            due(x.lay(5, 39, MAX), 1);
            int[] places = times(40, 0);
            places[0] = MIN;
            places[39] = MAX;
            due(x.digest(), digestOf(x, joined(times(8, -1), new int[] {40}, places, times(4, -1))));
        });
        edge(45, "(of a call that tells by asked(): what it tells, not the 1 that it answers; asked() stays):", () -> {
            WokenYears x = busy();
            long first = x.digest();
            due(x.asked(), 6);
            due(x.digest(), first);
            due(x.asked(), 6);
            due(x.upper(), 1);
            due(x.lower(), 16);
        });
        edge(45, "count() 0 to 13; of each HOUSE house() 0 to 5; of each kept TOWN how many DEEDS (-1: missing); "
            + "of each ROW its size (-1: missing) and places, of each TEXT likewise.", () -> {
            WokenYears x = busy();
            due(x.put(1, 0, -128), 1032);
            due(x.keep(2), 4);
            int[] blanks = times(60, 32);
            blanks[0] = -128;
            int[] due = joined(new int[] {2, -1, 4}, new int[] {3, 4, -5, 6, 0, -1, -1, -1, 40}, times(40, 0),
                new int[] {35}, SIX.chars().toArray(), new int[] {60}, blanks, new int[] {0, -1});
            due(x.digest(), digestOf(x, due));
            WokenYears one = in("s010h3209");
            due(one.tap(), 0);
            due(one.keep(1), 1);
            due(one.digest(), digestOf(one, joined(new int[] {-1, 1, -1}, times(6, -1), new int[] {9}, "s010h3209".chars().toArray(), times(3, -1))));
        });
    }
}
