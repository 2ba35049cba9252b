/** The edges of houses and of what dates take: promises 1, 12, 13, 22 to 25, and what the terms say of them. */
final class HouseEdges extends Edges {
    static void all() {
        newObject();
        takesTerms();
        wakingTerms();
        house();
        mark();
        markRefused();
        takes();
        aside();
        who();
        quarrels();
    }

    private static void newObject() {
        edge(1, "No ROWS, TEXTS, HOUSES.", () -> {
            WokenYears x = new WokenYears();
            for (int what = 0; what <= 13; what++) {
                due(x.count(what), 0);
            }
            for (int r = 0; r <= 5; r++) {
                int row = r;
                finds(x, y -> y.at(row, 0), NOTHING);
            }
            for (int t = 0; t <= 3; t++) {
                int text = t;
                finds(x, y -> y.put(text, 0, 0), NOTHING);
            }
            refused(x, y -> y.house(0, 0), BAD);
            refused(x, y -> y.pays(0), BAD);
        });
        edge(TERMS, "A TOWN (without HOUSES at first)", () -> {
            refused(new WokenYears(), WokenYears::tap, STATE);
            refused(new WokenYears(), WokenYears::night, STATE);
            refused(new WokenYears(), x -> x.soonest(1), BAD);
            refused(new WokenYears(), x -> x.soonest(0), 0);
            refused(new WokenYears(), x -> x.who(0, 2), 0);
            refused(new WokenYears(), x -> x.undo(0), 0);
            refused(new WokenYears(), x -> x.undo(1), BAD);
            refused(new WokenYears(), x -> x.walk(0), BAD);
        });
        edge(TERMS, "ROWS 0 .. 5 are rows of 0 to 40 ints, TEXTS 0 .. 3 rows of 0 to 60 bytes, or missing (at first).", () -> {
            WokenYears x = new WokenYears();
            for (int r = 0; r <= 5; r++) {
                due(x.row(r, 8 * r), 8 * r);
                due(x.count(10), r + 1);
            }
            for (int t = 0; t <= 3; t++) {
                due(x.text(t, 20 * t), 20 * t);
                due(x.count(11), t + 1);
            }
            refused(x, y -> y.row(6, 0), BAD);
            refused(x, y -> y.text(4, 0), BAD);
        });
        edge(TERMS, "MINUTE 0 of NIGHT 0 is at first; she stands at HOUSE 0; all are asleep, TAPPED 0 times.", () -> {
            WokenYears x = in(SIX);
            due(x.count(1), 0);
            due(x.count(2), 0);
            due(x.count(4), 0);
            due(x.count(6), 0);
            for (int i = 0; i < 6; i++) {
                tells(x, x.house(i, 3), 0);
                tells(x, x.house(i, 4), NONE);
            }
        });
    }

    private static void taking(WokenYears x, int i, int... taps) {
        int[] dates = {0, 39, 40, 49, 50, 99};
        for (int k = 0; k < dates.length; k++) {
            due(x.takes(i, dates[k]), taps[k]);
        }
    }

    private static void takesTerms() {
        edge(TERMS, "A DATE TAKES 1 tap, from 00 to 49 one more;", () -> taking(in(SIX), 0, 2, 2, 2, 2, 1, 1));
        edge(TERMS, "in FROST 40 .. 49 can't be woken.", () -> {
            WokenYears x = in("s110 h0000 v0000 r0000 i0000");
            taking(x, 0, 2, 2, NONE, NONE, 1, 1);
            taking(x, 1, 4, 4, NONE, NONE, 2, 2);
            taking(x, 2, 2, 2, NONE, NONE, 1, 1);
            taking(x, 3, 5, 5, NONE, NONE, 3, 3);
        });
        edge(TERMS, "To a HEAVY house it TAKES twice as many, to an INFANT one more than that;", () -> {
            taking(in(SIX), 1, 4, 4, 4, 4, 2, 2);
            taking(in(SIX), 4, 5, 5, 5, 5, 3, 3);
        });
        edge(TERMS, "a DEAD one is never woken;", () -> {
            taking(in(SIX), 3, NONE, NONE, NONE, NONE, NONE, NONE);
            taking(in("s110 d4199"), 0, NONE, NONE, NONE, NONE, NONE, NONE);
            WokenYears x = in("s010 d9999");
            tap(x, 40);
            due(x.count(6), 0);
            due(x.count(7), 0);
        });
        edge(TERMS, "of a MILL FROST is of no matter.", () -> {
            taking(in("s110 m4199"), 0, 2, 2, 2, 2, 1, 1);
            taking(in("s010 m4199"), 0, 2, 2, 2, 2, 1, 1);
        });
        edge(TERMS, "A HOUSE PAYS 1, a RICH one twice as much, a MILL 3 more than a RICH one; a DEAD one nothing.", () -> {
            int[] pays = {1, 1, 2, 0, 1, 5};
            for (int i = 0; i < 6; i++) {
                due(in(SIX).pays(i), pays[i]);
            }
        });
    }

    private static void wakingTerms() {
        edge(TERMS, "if it was asleep, and is TAPPED as many times as its DATE TAKES or more, it is AWAKE from that MINUTE's end on,", () -> {
            WokenYears x = in("s110 h4999");
            for (int k = 0; k < 3; k++) {
                due(x.tap(), 0);
            }
            due(x.frost(0), 0);
            due(x.count(6), 0);
            due(x.tap(), 1);
            due(x.count(6), 1);
            WokenYears early = in("s010 h4999");
            due(early.tap(), 0);
            due(early.tap(), 1);
            WokenYears late = in("s010 h5099");
            due(late.tap(), 1);
            WokenYears infant = in("s010 i4999");
            for (int k = 1; k <= 6; k++) {
                due(infant.tap(), k >= 5 ? 1 : 0);
            }
        });
        edge(TERMS, "has that year till night,", () -> {
            WokenYears x = in("s010 h9999");
            due(x.tap(), 1);
            due(x.slate(0, 0), 99);
            due(x.frost(1), 1);
            tells(x, x.house(0, 4), 99);
            due(x.night(), 1);
            tells(x, x.house(0, 4), NONE);
        });
        edge(TERMS, "and PAYS into her PURSE (9999 at most).", () -> {
            // forty deeds reach no further than twenty mills: the purse can't come to 9999
            WokenYears x = in("s010 m9999");
            for (int night = 0; night < 20; night++) {
                due(x.tap(), 1);
                due(x.count(7), 5 * night + 5);
                due(x.night(), 1);
            }
            due(x.count(7), 100);
            WokenYears once = in("s010 r9999 d9999");
            tap(once, 9);
            due(once.count(7), 2);
        });
        edge(TERMS, "the HOUSE is TAPPED 0 times then (AWAKE, it stays so, with its year).", () -> {
            WokenYears x = in("s010 h3299");
            due(x.tap(), 0);
            due(x.slate(0, 33), 32);
            tells(x, x.house(0, 3), 0);
            due(x.tap(), 0);
            due(x.tap(), 1);
            due(x.slate(0, 70), 33);
            tells(x, x.house(0, 3), 0);
            tells(x, x.house(0, 4), 33);
            tells(x, x.house(0, 5), 0);
            due(x.count(7), 1);
            due(x.tap(), 1);
            due(x.count(7), 1);
            tells(x, x.house(0, 4), 33);
        });
    }

    private static void house() {
        edge(12, "Of a HOUSE: 0 the KIND, 1 the DATE on its slate, 2 the MINUTE by which it wants to be woken, 3 how often it was TAPPED, "
            + "4 the year that it has", () -> {
            WokenYears x = busy();
            int[][] told = {{0, 32, 9, 2, 32, 0}, {1, 47, 12, 0, NONE, 4}, {5, 44, 25, 0, NONE, 2}};
            int[] houses = {0, 1, 5};
            for (int k = 0; k < 3; k++) {
                for (int what = 0; what <= 5; what++) {
                    tells(x, x.house(houses[k], what), told[k][what]);
                }
            }
        });
        edge(12, "(NONE: asleep),", () -> {
            WokenYears x = in("s010 h0099");
            tells(x, x.house(0, 4), NONE);
            due(x.tap(), 0);
            tells(x, x.house(0, 4), NONE);
            due(x.tap(), 1);
            tells(x, x.house(0, 4), 0);
        });
        edge(12, "5 how many taps more it takes till it is AWAKE", () -> {
            int[] more = {2, 4, 1, NONE, 5, 2};
            for (int i = 0; i < 6; i++) {
                WokenYears x = in(SIX);
                tells(x, x.house(i, 5), more[i]);
            }
            WokenYears x = in("s010 i4999");
            for (int k = 5; k >= 0; k--) {
                tells(x, x.house(0, 5), k);
                due(x.tap(), k <= 1 ? 1 : 0);
            }
            WokenYears cold = in("s110 i4999");
            tap(cold, 7);
            due(cold.frost(0), 0);
            tells(cold, cold.house(0, 5), 1);
        });
        edge(12, "(0: it is;", () -> {
            WokenYears x = busy();
            tells(x, x.house(0, 5), 0);
            due(x.slate(0, 45), 32);
            due(x.frost(1), 1);
            tells(x, x.house(0, 5), 0);
        });
        edge(12, "NONE: it can't be), told by asked(): 1.", () -> {
            WokenYears x = busy();
            tells(x, x.house(3, 5), NONE);
            due(x.frost(1), 1);
            tells(x, x.house(1, 5), NONE);
            tells(x, x.house(4, 5), NONE);
            tells(x, x.house(5, 5), 2);
            due(x.slate(1, 50), 47);
            tells(x, x.house(1, 5), 2);
        });
        edge(12, "BAD.", () -> {
            for (int i : outside(0, 5)) {
                refused(busy(), x -> x.house(i, 0), BAD);
                refused(busy(), x -> x.house(0, i), BAD);
            }
            refused(in("s010h3209"), x -> x.house(1, 0), BAD);
            refused(new WokenYears(), x -> x.house(0, 0), BAD);
        });
    }

    private static void mark() {
        edge(13, "a HEAVY one (INFANT, too) how many taps more its DATE TAKES to it than to a HOUSE", () -> {
            WokenYears x = in("s010 v4999 v5099 i4999 i5099");
            due(x.mark(0, 1), 2);
            due(x.mark(1, 1), 1);
            due(x.mark(2, 1), 3);
            due(x.mark(3, 1), 2);
        });
        edge(13, "(NONE: it can't be woken), a RICH one", () -> {
            WokenYears x = in("s110 v4099 i4999 v3999 i5099");
            refused(x, y -> y.mark(0, 1), NONE);
            refused(x, y -> y.mark(1, 1), NONE);
            due(x.mark(2, 1), 2);
            due(x.mark(3, 1), 2);
        });
        edge(13, "a RICH one (MILL, too) how much more it PAYS than a HOUSE,", () -> {
            due(busy().mark(2, 2), 1);
            due(busy().mark(5, 2), 4);
            due(in("s110 r4599").mark(0, 2), 1);
        });
        edge(13, "a DEAD one how many other HOUSES are AWAKE,", () -> {
            WokenYears x = in("s010 h9999 d9999 d9999 h9999");
            due(x.mark(1, 3), 0);
            due(x.tap(), 1);
            due(x.walk(3), 4);
            due(x.mark(1, 3), 1);
            due(x.tap(), 1);
            due(x.mark(1, 3), 2);
            due(x.mark(2, 3), 2);
            due(in("s010 d9999").mark(0, 3), 0);
        });
        edge(13, "an INFANT how many taps its DATE TAKES", () -> {
            WokenYears x = in("s010 i4999 i5099");
            due(x.mark(0, 4), 5);
            due(x.mark(1, 4), 3);
            tap(x, 5);
            due(x.mark(0, 4), 5);
        });
        edge(13, "(NONE: it can't be woken), a MILL", () -> {
            WokenYears x = in("s110 i4099 i4999 i3999 i5099");
            refused(x, y -> y.mark(0, 4), NONE);
            refused(x, y -> y.mark(1, 4), NONE);
            due(x.mark(2, 4), 5);
            due(x.mark(3, 4), 3);
        });
        edge(13, "a MILL how many other HOUSES have an earlier DATE on their slates.", () -> {
            WokenYears x = in("s010 h4300 h4400 m4400 h4500 m0000 m9900");
            due(x.mark(2, 5), 2);
            due(x.mark(4, 5), 0);
            due(x.mark(5, 5), 5);
            due(x.slate(1, 43), 44);
            due(x.mark(2, 5), 3);
            due(in("s010 m9999").mark(0, 5), 0);
        });
    }

    private static void markRefused() {
        edge(13, "What a HOUSE that IS of a KIND tells:", () -> {
            int[][] are = {{}, {1}, {2}, {3}, {1, 4}, {2, 5}};
            for (int i = 0; i < 6; i++) {
                for (int kind : are[i]) {
                    due(in(SIX).mark(i, kind) >= 0 ? 1 : 0, 1);
                }
            }
        });
        edge(13, "BAD: also KIND 0;", () -> {
            for (int i = 0; i < 6; i++) {
                int house = i;
                refused(busy(), x -> x.mark(house, 0), BAD);
            }
            for (int n : outside(0, 5)) {
                refused(busy(), x -> x.mark(n, 1), BAD);
                refused(busy(), x -> x.mark(0, n), BAD);
            }
            refused(new WokenYears(), x -> x.mark(0, 1), BAD);
        });
        edge(13, "UNLIKE.", () -> {
            int[][] not = {{1, 2, 3, 4, 5}, {2, 3, 4, 5}, {1, 3, 4, 5}, {1, 2, 4, 5}, {2, 3, 5}, {1, 3, 4}};
            for (int i = 0; i < 6; i++) {
                for (int kind : not[i]) {
                    int house = i;
                    finds(busy(), x -> x.mark(house, kind), UNLIKE);
                }
            }
        });
    }

    private static void takes() {
        edge(22, "How many taps a DATE (0 .. 99) would TAKE to a HOUSE, FROST as it is.", () -> {
            WokenYears x = busy();
            taking(x, 0, 2, 2, 2, 2, 1, 1);
            taking(x, 5, 2, 2, 2, 2, 1, 1);
            due(x.frost(1), 1);
            taking(x, 0, 2, 2, NONE, NONE, 1, 1);
            due(x.frost(0), 0);
            taking(x, 0, 2, 2, 2, 2, 1, 1);
        });
        edge(22, "NONE: it can't be woken.", () -> {
            refused(busy(), x -> x.takes(3, 0), NONE);
            refused(busy(), x -> x.takes(3, 99), NONE);
            WokenYears x = busy();
            due(x.frost(1), 1);
            refused(x, y -> y.takes(0, 40), NONE);
            refused(x, y -> y.takes(0, 49), NONE);
            refused(x, y -> y.takes(3, 50), NONE);
        });
        edge(22, "BAD.", () -> {
            for (int i : outside(0, 5)) {
                refused(busy(), x -> x.takes(i, 0), BAD);
            }
            for (int date : outside(0, 99)) {
                refused(busy(), x -> x.takes(0, date), BAD);
                refused(busy(), x -> x.takes(3, date), BAD);
            }
            refused(in("s010h3209"), x -> x.takes(1, 0), BAD);
            refused(new WokenYears(), x -> x.takes(0, 0), BAD);
        });
        edge(23, "What a HOUSE would PAY.", () -> {
            refused(busy(), x -> x.pays(0), 1);
            refused(busy(), x -> x.pays(3), 0);
            refused(busy(), x -> x.pays(5), 5);
            refused(in("s110h4500"), x -> x.pays(0), 1);
        });
        edge(23, "BAD.", () -> {
            for (int i : outside(0, 5)) {
                refused(busy(), x -> x.pays(i), BAD);
            }
            refused(in("s010h3209"), x -> x.pays(1), BAD);
            refused(new WokenYears(), x -> x.pays(0), BAD);
        });
    }

    private static void aside() {
        edge(TERMS, "what dates take (aside).", () -> {
            refused(busy(), x -> x.takes(1, 50), 2);
            refused(busy(), x -> x.pays(2), 2);
            refused(busy(), x -> x.who(50, 2), 2);
            refused(busy(), WokenYears::quarrels, 0);
            refused(full(), x -> x.takes(1, 50), 2);
        });
        edge(TERMS, "Sets (of HOUSES, of KINDS) are told by bits.", () -> {
            for (int i = 0; i < 6; i++) {
                StringBuilder signs = new StringBuilder("s010");
                for (int k = 0; k < 6; k++) {
                    signs.append(k == i ? "i0000" : "h0000");
                }
                WokenYears x = in(signs.toString());
                due(x.who(0, 5), 1 << i);
                due(x.who(0, 2), 63 - (1 << i));
                due(x.soonest(1 << i), i + 5);
            }
            due(in(SIX).who(0, 9), 0);
            due(in("s010 h9999").who(0, 2), 1);
        });
    }

    private static void who() {
        edge(24, "HOUSES (bits) to which a DATE (0 .. 99) would TAKE just n (1 .. 9) taps, FROST as it is.", () -> {
            int[] early = {0, 1 + 4 + 32, 0, 2, 16, 0, 0, 0, 0};
            int[] late = {1 + 4 + 32, 2, 16, 0, 0, 0, 0, 0, 0};
            for (int n = 1; n <= 9; n++) {
                due(in(SIX).who(0, n), early[n - 1]);
                due(in(SIX).who(49, n), early[n - 1]);
                due(in(SIX).who(50, n), late[n - 1]);
                due(in(SIX).who(99, n), late[n - 1]);
            }
            WokenYears cold = in("s110 h3209 v4512 m4425");
            due(cold.who(39, 2), 5);
            due(cold.who(40, 2), 4);
            due(cold.who(49, 4), 0);
            due(cold.who(50, 2), 2);
            due(new WokenYears().who(99, 9), 0);
            due(new WokenYears().who(0, 1), 0);
        });
        edge(24, "BAD.", () -> {
            for (int date : outside(0, 99)) {
                refused(busy(), x -> x.who(date, 1), BAD);
            }
            for (int n : outside(1, 9)) {
                refused(busy(), x -> x.who(0, n), BAD);
            }
            refused(busy(), x -> x.who(0, NONE), BAD);
            refused(new WokenYears(), x -> x.who(100, 1), BAD);
        });
    }

    private static void wakeAll(WokenYears x) {
        for (int i = 0; i < x.count(0); i++) {
            if (i > 0) due(x.walk(i) > 0 ? 1 : 0, 1);
            due(x.tap(), 1);
        }
    }

    private static void quarrels() {
        edge(25, "How many neighbours (twos side by side) QUARREL: AWAKE both, their years are further apart than told.", () -> {
            WokenYears x = in("s010 h6099 h7099 h8199 h7099 h5999 h9999");
            wakeAll(x);
            due(x.quarrels(), 4);
            WokenYears two = in("s010 h6099 h6599");
            wakeAll(two);
            due(two.quarrels(), 0);
            WokenYears apart = in("s010 h6099 h7199");
            wakeAll(apart);
            due(apart.quarrels(), 1);
            WokenYears near = in("s000 h5099 h5099 h5199");
            wakeAll(near);
            due(near.quarrels(), 1);
            WokenYears far = in("s099 h5099 h9999");
            wakeAll(far);
            due(far.quarrels(), 0);
            WokenYears ends = in("s048 h5099 h9999 h5099");
            wakeAll(ends);
            due(ends.quarrels(), 2);
            WokenYears one = in("s000 h5099");
            wakeAll(one);
            due(one.quarrels(), 0);
        });
        edge(25, "AWAKE both,", () -> {
            WokenYears x = in("s000 h5099 h9999 h5099");
            due(x.quarrels(), 0);
            due(x.tap(), 1);
            due(x.quarrels(), 0);
            due(x.walk(2), 3);
            due(x.tap(), 1);
            due(x.quarrels(), 0);
            due(x.walk(1), 5);
            due(x.tap(), 1);
            due(x.quarrels(), 2);
            due(x.slate(1, 50), 99);
            due(x.quarrels(), 2);
            due(x.night(), 3);
            due(x.quarrels(), 0);
            WokenYears asleep = in("s000 h0099 h5099");
            due(asleep.walk(1), 1);
            due(asleep.tap(), 1);
            due(asleep.quarrels(), 0);
        });
        edge(25, "STATE: no HOUSES.", () -> refused(new WokenYears(), WokenYears::quarrels, STATE));
    }
}
