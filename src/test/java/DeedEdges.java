/** The edges of deeds: promises 14 to 21 and 38, and what the terms say of deeds and lots. */
final class DeedEdges extends Edges {
    static void all() {
        terms();
        walk();
        tapped();
        slate();
        frost();
        night();
        undo();
        keep();
        on();
        lotsOfTerms();
        lots();
        lotsRefused();
    }

    private static void terms() {
        edge(TERMS, "A WALK to a HOUSE takes a MINUTE for each HOUSE that it is further along.", () -> {
            WokenYears x = in(SIX);
            due(x.walk(5), 5);
            due(x.walk(0), 10);
            due(x.walk(1), 11);
            due(x.count(1), 11);
        });
        edge(TERMS, "A TAP at the HOUSE where she stands takes a MINUTE: it is TAPPED once more;", () -> {
            WokenYears x = in("s010 h9999 d9999");
            for (int k = 1; k <= 3; k++) {
                due(x.tap(), 1);
                tells(x, x.house(0, 3), k);
                tells(x, x.house(1, 3), 0);
                due(x.count(1), k);
            }
            due(x.walk(1), 4);
            due(x.tap(), 0);
            tells(x, x.house(1, 3), 1);
            due(x.count(1), 5);
        });
        edge(TERMS, "FROST comes, or goes.", () -> {
            WokenYears x = in("s110 h4599");
            tap(x, 1);
            due(x.frost(0), 0);
            tells(x, x.house(0, 3), 1);
            tells(x, x.house(0, 5), 1);
            due(x.tap(), 1);
            due(x.frost(1), 1);
            due(x.count(6), 1);
            due(x.count(1), 2);
            due(x.night(), 1);
            due(x.count(5), 1);
            tells(x, x.house(0, 5), NONE);
        });
        edge(TERMS, "At NIGHT all are asleep, TAPPED 0 times, it is MINUTE 0 of the next NIGHT, she stands at HOUSE 0.", () -> {
            WokenYears x = busy();
            due(x.tap(), 1);
            due(x.night(), 2);
            int[] counts = {6, 0, 1, 6, 0, 0, 0, 3};
            for (int what = 0; what <= 7; what++) {
                due(x.count(what), counts[what]);
            }
            for (int i = 0; i < 6; i++) {
                tells(x, x.house(i, 3), 0);
                tells(x, x.house(i, 4), NONE);
            }
            tells(x, x.house(1, 1), 47);
        });
        edge(TERMS, "These are DEEDS 0, 1, .. (40 at most).", () -> {
            WokenYears x = in("s010 d9999");
            tap(x, 40);
            due(x.count(3), 40);
            refused(x, WokenYears::tap, FULL);
            tells(x, x.house(0, 3), 40);
            due(x.undo(40), 0);
            due(x.undo(39), 1);
            tells(x, x.house(0, 3), 39);
            due(x.tap(), 0);
            refused(x, WokenYears::tap, FULL);
        });
        edge(TERMS, "What is done: a WALK, a TAP, a slate CHANGED, FROST, NIGHT.", () -> {
            WokenYears x = in(SIX);
            due(x.walk(1), 1);
            due(x.count(3), 1);
            due(x.tap(), 0);
            due(x.count(3), 2);
            due(x.slate(0, 33), 32);
            due(x.count(3), 3);
            due(x.frost(1), 1);
            due(x.count(3), 4);
            due(x.night(), 0);
            due(x.count(3), 5);
            due(x.keep(0), 5);
            due(x.many() >= 0 ? 1 : 0, 1);
            due(x.count(3), 5);
        });
    }

    private static void walk() {
        edge(14, "A WALK: the MINUTE then.", () -> {
            WokenYears x = behind(39);
            due(x.walk(5), 5);
            due(x.count(3), 40);
            due(x.count(4), 5);
            WokenYears two = in("s010 h9999 h9999");
            due(two.tap(), 1);
            due(two.walk(1), 2);
            due(two.walk(0), 3);
        });
        edge(14, "BAD;", () -> {
            for (int to : outside(0, 5)) {
                refused(busy(), x -> x.walk(to), BAD);
            }
            refused(in("s010h3209"), x -> x.walk(1), BAD);
            refused(new WokenYears(), x -> x.walk(0), BAD);
        });
        edge(14, "STATE: she is there;", () -> {
            refused(busy(), x -> x.walk(2), STATE);
            refused(in("s010h3209"), x -> x.walk(0), STATE);
            WokenYears x = busy();
            due(x.night(), 1);
            refused(x, y -> y.walk(0), STATE);
        });
        edge(14, "FULL: 40 DEEDS.", () -> {
            refused(full(), x -> x.walk(1), FULL);
            refused(full(), x -> x.walk(5), FULL);
        });
        edge(14, "(FULL last.)", () -> {
            refused(full(), x -> x.walk(0), STATE);
            refused(full(), x -> x.walk(6), BAD);
            refused(full(), x -> x.walk(-1), BAD);
        });
    }

    private static void tapped() {
        edge(15, "A TAP: 1 if the HOUSE is AWAKE then, 0.", () -> {
            WokenYears x = behind(38);
            due(x.tap(), 0);
            due(x.tap(), 1);
            due(x.count(3), 40);
            WokenYears awake = busy();
            due(awake.walk(0), 6);
            due(awake.tap(), 1);
            due(awake.count(7), 1);
        });
        edge(15, "STATE: no HOUSES;", () -> refused(new WokenYears(), WokenYears::tap, STATE));
        edge(15, "FULL. (FULL last.)", () -> refused(full(), WokenYears::tap, FULL));
    }

    private static void slate() {
        edge(16, "A slate is CHANGED: the DATE that was.", () -> {
            WokenYears x = behind(38);
            due(x.slate(5, 0), 44);
            due(x.slate(5, 99), 0);
            due(x.count(3), 40);
            tells(x, x.house(5, 1), 99);
        });
        edge(16, "BAD;", () -> {
            for (int i : outside(0, 5)) {
                refused(busy(), x -> x.slate(i, 1), BAD);
            }
            for (int date : outside(0, 99)) {
                refused(busy(), x -> x.slate(0, date), BAD);
            }
            refused(new WokenYears(), x -> x.slate(0, 1), BAD);
        });
        edge(16, "STATE: it is that;", () -> {
            refused(busy(), x -> x.slate(0, 32), STATE);
            refused(busy(), x -> x.slate(1, 47), STATE);
            due(busy().slate(1, 45), 47);
        });
        edge(16, "FULL.", () -> {
            refused(full(), x -> x.slate(0, 33), FULL);
            refused(full(), x -> x.slate(5, 99), FULL);
        });
        edge(16, "(FULL last.)", () -> {
            refused(full(), x -> x.slate(0, 32), STATE);
            refused(full(), x -> x.slate(0, 100), BAD);
            refused(full(), x -> x.slate(6, 32), BAD);
        });
    }

    private static void frost() {
        edge(17, "FROST comes (1), or goes (0): whether there is some.", () -> {
            WokenYears x = behind(38);
            due(x.frost(1), 1);
            due(x.count(5), 1);
            due(x.frost(0), 0);
            due(x.count(5), 0);
            due(x.count(3), 40);
            due(in("s110h3209").frost(0), 0);
        });
        edge(17, "BAD;", () -> {
            for (int on : outside(0, 1)) {
                refused(busy(), x -> x.frost(on), BAD);
                refused(new WokenYears(), x -> x.frost(on), BAD);
            }
        });
        edge(17, "STATE: no HOUSES,", () -> {
            refused(new WokenYears(), x -> x.frost(0), STATE);
            refused(new WokenYears(), x -> x.frost(1), STATE);
        });
        edge(17, "it is so;", () -> {
            refused(busy(), x -> x.frost(0), STATE);
            refused(in("s110h3209"), x -> x.frost(1), STATE);
            refused(behind(1), x -> x.frost(1), STATE);
        });
        edge(17, "FULL.", () -> refused(full(), x -> x.frost(1), FULL));
        edge(17, "(FULL last.)", () -> {
            refused(full(), x -> x.frost(0), STATE);
            refused(full(), x -> x.frost(2), BAD);
            refused(full(), x -> x.frost(-1), BAD);
        });
    }

    private static void night() {
        edge(18, "NIGHT: how many were AWAKE.", () -> {
            WokenYears x = behind(39);
            due(x.night(), 0);
            due(x.count(2), 1);
            due(x.count(3), 40);
            WokenYears all = in("s010 h9999 r9999 m9999");
            tap(all, 1);
            due(all.walk(1), 2);
            tap(all, 1);
            due(all.walk(2), 4);
            tap(all, 1);
            due(all.night(), 3);
            due(all.night(), 0);
            due(all.count(2), 2);
        });
        edge(18, "STATE: no HOUSES;", () -> refused(new WokenYears(), WokenYears::night, STATE));
        edge(18, "FULL. (FULL last.)", () -> refused(full(), WokenYears::night, FULL));
    }

    private static void undo() {
        edge(19, "DEEDS from number n on", () -> {
            WokenYears x = in(SIX);
            long[] then = new long[8];
            for (int k = 0; k < 8; k++) {
                then[k] = x.digest();
                switch (k) {
                    case 0, 1 -> tap(x, 1);
                    case 2 -> due(x.walk(5), 7);
                    case 3 -> due(x.slate(5, 99), 44);
                    case 4 -> due(x.tap(), 1);
                    case 5 -> due(x.frost(1), 1);
                    case 6 -> due(x.night(), 2);
                    default -> due(x.count(3), 7);
                }
            }
            for (int k = 7; k > 0; k--) {
                due(x.digest(), then[k]);
                due(x.undo(k - 1), 1);
            }
            due(x.digest(), then[0]);
        });
        edge(19, "(0 to how many there are: none then) are undone: how many.", () -> {
            refused(busy(), x -> x.undo(4), 0);
            refused(full(), x -> x.undo(40), 0);
            refused(new WokenYears(), x -> x.undo(0), 0);
            due(busy().undo(3), 1);
            due(busy().undo(0), 4);
            due(full().undo(0), 40);
            WokenYears x = busy();
            due(x.undo(0), 4);
            refused(x, y -> y.undo(0), 0);
            due(x.count(12), 1);
            due(x.on(0), 2);
        });
        edge(19, "BAD.", () -> {
            for (int n : outside(0, 4)) {
                refused(busy(), x -> x.undo(n), BAD);
            }
            refused(full(), x -> x.undo(41), BAD);
            refused(new WokenYears(), x -> x.undo(1), BAD);
        });
    }

    private static void keep() {
        edge(20, "The TOWN (as it is, DEEDS) is kept in a place (0 .. 2): how many DEEDS.", () -> {
            WokenYears x = busy();
            due(x.keep(2), 4);
            due(x.count(12), 2);
            due(x.keep(2), 4);
            due(x.count(12), 2);
            due(x.keep(1), 4);
            due(x.count(12), 3);
            due(x.count(3), 4);
            due(full().keep(0), 40);
            due(in("s010h3209").keep(1), 0);
        });
        edge(20, "BAD;", () -> {
            for (int k : outside(0, 2)) {
                refused(busy(), x -> x.keep(k), BAD);
                refused(new WokenYears(), x -> x.keep(k), BAD);
            }
        });
        edge(20, "STATE: no HOUSES.", () -> {
            for (int k = 0; k <= 2; k++) {
                int place = k;
                refused(new WokenYears(), x -> x.keep(place), STATE);
            }
        });
    }

    private static void on() {
        edge(21, "The TOWN is as it was kept: how many DEEDS.", () -> {
            WokenYears x = busy();
            long before = x.digest();
            due(x.keep(1), 4);
            due(x.keep(2), 4);
            long kept = x.digest();
            due(x.frost(1), 1);
            due(x.night(), 1);
            due(x.walk(5), 5);
            due(x.on(2), 4);
            due(x.digest(), kept);
            due(kept == before ? 1 : 0, 0);
            due(x.undo(0), 4);
            due(x.on(1), 4);
            due(x.digest(), kept);
            due(x.undo(3), 1);
            due(x.count(4), 0);
            due(x.on(2), 4);
            due(x.on(0), 2);
            due(x.count(3), 2);
            tells(x, x.house(1, 1), 45);
            WokenYears all = full();
            due(all.keep(0), 40);
            due(all.undo(0), 40);
            due(all.on(0), 40);
            refused(all, WokenYears::tap, FULL);
            due(all.undo(39), 1);
            due(all.count(5), 1);
        });
        edge(21, "BAD;", () -> {
            for (int k : outside(0, 2)) {
                refused(busy(), x -> x.on(k), BAD);
            }
        });
        edge(21, "NOTHING.", () -> {
            finds(busy(), x -> x.on(1), NOTHING);
            finds(busy(), x -> x.on(2), NOTHING);
            finds(new WokenYears(), x -> x.on(0), NOTHING);
        });
    }

    private static void lotsOfTerms() {
        edge(TERMS, "a number comes from the one ahead by 48271 times it modulo 2147483647,", () -> {
            // from 1: 48271 (sort 1, a walk to 1), 182605794 (sort 2 .. 5, a tap), 1291394886 (sort 0, a walk to 0)
            WokenYears x = in("s010 h3299 h3299");
            due(x.lots(1, 1), 0);
            due(x.count(4), 48271 % 2);
            WokenYears three = in("s010 h3299 h3299");
            due(three.lots(3, 1), 0);
            due(three.count(3), 3);
            due(three.count(1), 3);
            due(three.count(4), 0);
            tells(three, three.house(1, 3), 1);
        });
        edge(TERMS, "the first from a seed (1 .. 2147483646).", () -> {
            // the greatest seed: 2147435376, by 8 it is 6 modulo 8, modulo 6 it is 0, by 64 it is 33553677
            WokenYears x = in(SIX);
            due(x.lots(1, MAX - 1), 0);
            tells(x, x.house(0, 1), 77);
            refused(busy(), y -> y.lots(1, MAX), BAD);
            refused(busy(), y -> y.lots(1, 0), BAD);
            refused(busy(), y -> y.lots(1, -1), BAD);
            refused(busy(), y -> y.lots(1, MIN), BAD);
        });
    }

    private static void lots() {
        edge(38, "n (1 .. 20) DEEDS truly by LOTS of a seed: for each a number:", () -> {
            for (int n : new int[] {1, 2, 19, 20}) {
                WokenYears x = in(SIX);
                due(x.lots(n, 5) >= 0 ? 1 : 0, 1);
                due(x.count(3), n);
                due(x.undo(n - 1), 1);
            }
        });
        edge(38, "it by 8, cut, modulo 8: 0, 1 a WALK to HOUSE it modulo how many there are (perhaps where she is),", () -> {
            // from 9: 434439, sort 0, house 3 of 6; from 1: 48271, sort 1, house 1
            WokenYears x = in(SIX);
            due(x.lots(1, 9), 0);
            due(x.count(4), 3);
            due(x.count(1), 3);
            due(x.lots(1, 9), 0);
            due(x.count(3), 2);
            due(x.count(1), 3);
            due(x.lots(1, 1), 0);
            due(x.count(4), 1);
            due(x.count(1), 5);
        });
        edge(38, "2 to 5 a TAP,", () -> {
            for (int seed : new int[] {10, 2, 11, 3}) {
                WokenYears x = in("s010 d9999 h9999");
                due(x.walk(1), 1);
                due(x.lots(1, seed), 1);
                due(x.count(6), 2);
                due(x.count(1), 2);
            }
        });
        edge(38, "6 the slate of that HOUSE is CHANGED to DATE it by 64, cut, modulo 100 (perhaps the same),", () -> {
            // from 16: 772336, house 4 of 6, by 64 12067
            WokenYears x = in(SIX);
            due(x.lots(1, 16), 0);
            tells(x, x.house(4, 1), 67);
            due(x.walk(4), 4);
            due(x.tap(), 0);
            due(x.lots(1, 16), 0);
            due(x.count(3), 4);
            tells(x, x.house(4, 1), 67);
            tells(x, x.house(4, 3), 0);
            due(x.undo(3), 1);
            tells(x, x.house(4, 3), 1);
        });
        edge(38, "7 FROST comes, or goes:", () -> {
            WokenYears x = in(SIX);
            for (int k = 1; k <= 4; k++) {
                due(x.lots(1, 4), 0);
                due(x.count(5), k % 2);
                due(x.count(3), k);
            }
        });
        edge(38, "how many HOUSES are AWAKE then.", () -> {
            WokenYears x = busy();
            due(x.lots(1, 1), 1);
            WokenYears two = in("s010 h9999 h9999");
            due(two.tap(), 1);
            due(two.lots(2, 1), 2);
            due(two.lots(1, 1), 2);
        });
    }

    private static void lotsRefused() {
        edge(38, "BAD;", () -> {
            for (int n : outside(1, 20)) {
                refused(busy(), x -> x.lots(n, 1), BAD);
                refused(new WokenYears(), x -> x.lots(n, 1), BAD);
            }
            refused(busy(), x -> x.lots(20, 0), BAD);
            refused(busy(), x -> x.lots(20, MAX), BAD);
        });
        edge(38, "STATE: no HOUSES;", () -> {
            refused(new WokenYears(), x -> x.lots(1, 1), STATE);
            refused(new WokenYears(), x -> x.lots(20, MAX - 1), STATE);
        });
        edge(38, "FULL: with n more there would be more than 40 DEEDS.", () -> {
            refused(full(), x -> x.lots(1, 1), FULL);
            refused(behind(39), x -> x.lots(2, 1), FULL);
            refused(behind(21), x -> x.lots(20, 1), FULL);
            for (int n : new int[] {1, 2, 20}) {
                WokenYears x = behind(40 - n);
                due(x.lots(n, 1) >= 0 ? 1 : 0, 1);
                due(x.count(3), 40);
            }
        });
        edge(38, "(FULL last.)", () -> {
            refused(full(), x -> x.lots(0, 1), BAD);
            refused(full(), x -> x.lots(21, 1), BAD);
            refused(full(), x -> x.lots(1, 0), BAD);
        });
    }
}
