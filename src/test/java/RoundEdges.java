/** The edges of rounds and of dates to doors: promises 26 to 29. */
final class RoundEdges extends Edges {
    static void all() {
        soonest();
        aside();
        soonestRefused();
        intime();
        order();
        intimeRefused();
        many();
        dates();
        datesRefused();
    }

    private static final String EASY = "s010 h9999 h9999 h9999 h9999 h9999 h9999";

    private static void soonest() {
        edge(26, "The fewest MINUTES in which all of a set of HOUSES (who are asleep, and can be woken) are AWAKE.", () -> {
            refused(busy(), x -> x.soonest(0), 0);
            refused(new WokenYears(), x -> x.soonest(0), 0);
            due(in(EASY).soonest(1), 1);
            due(in(EASY).soonest(32), 6);
            due(in(EASY).soonest(63), 11);
            due(in("s010 i4999").soonest(1), 5);
            WokenYears middle = in(EASY);
            due(middle.walk(2), 2);
            due(middle.soonest(63), 2 + 5 + 6);
            due(middle.soonest(33), 2 + 5 + 2);
            due(middle.soonest(3), 2 + 2);
            due(middle.soonest(24), 2 + 2);
            due(middle.soonest(4), 1);
            due(middle.walk(3), 3);
            due(middle.soonest(63), 2 + 5 + 6);
            due(middle.walk(5), 5);
            due(middle.soonest(63), 5 + 6);
            due(middle.soonest(1), 6);
            due(full().soonest(55), 5 + 2 + 4 + 1 + 5 + 2);
        });
        edge(26, "The fewest MINUTES in which all", () -> {
            WokenYears x = in("s110 i4999 h9999");
            tap(x, 9);
            due(x.frost(0), 0);
            due(x.soonest(1), 1);
            due(x.slate(0, 48), 49);
            due(x.soonest(1), 5);
            tap(x, 4);
            due(x.soonest(1), 1);
            due(x.soonest(3), 3);
        });
    }

    private static void aside() {
        edge(TERMS, "rounds (aside, from now on: WALKS, TAPS alone).", () -> {
            refused(busy(), x -> x.soonest(2 + 16), 1 + 4 + 3 + 5);
            refused(full(), x -> x.soonest(2), 1 + 4);
            WokenYears x = busy();
            due(x.row(0, 0), 0);
            long before = x.digest();
            due(x.intime(0, 0), 0);
            due(x.digest(), before);
            due(x.intime(2, 0), 5);
            isRow(x, 0, 1);
            due(x.row(0, 0), 0);
            due(x.digest(), before);
            due(x.many(), 4);
            due(x.digest(), before);
            due(full().intime(2, 0), 5);
            due(full().many(), 5);
            // no frost's going, no night, no other slate wakes it sooner
            refused(in("s110 h4599"), y -> y.soonest(1), STATE);
            refused(in("s010 h4901"), y -> y.intime(1, 0), NONE);
        });
    }

    private static void soonestRefused() {
        edge(26, "BAD: also a set of other HOUSES.", () -> {
            for (int set : outside(0, 63)) {
                refused(busy(), x -> x.soonest(set), BAD);
            }
            refused(in("s010h3209"), x -> x.soonest(2), BAD);
            refused(in("s010h3209"), x -> x.soonest(3), BAD);
            refused(new WokenYears(), x -> x.soonest(1), BAD);
            due(in("s010h3209").soonest(1), 2);
        });
        edge(26, "STATE: one of them is AWAKE,", () -> {
            refused(busy(), x -> x.soonest(1), STATE);
            refused(busy(), x -> x.soonest(3), STATE);
            due(busy().soonest(2) > 0 ? 1 : 0, 1);
        });
        edge(26, "or can't be woken.", () -> {
            refused(busy(), x -> x.soonest(8), STATE);
            refused(busy(), x -> x.soonest(8 + 2), STATE);
            WokenYears cold = in("s110 h4099 h4999 h3999 h5099 m4599");
            refused(cold, x -> x.soonest(1), STATE);
            refused(cold, x -> x.soonest(2), STATE);
            refused(cold, x -> x.soonest(31), STATE);
            due(cold.soonest(28), 4 + 2 + 1 + 2);
        });
        edge(26, "(STATE last.)", () -> {
            refused(busy(), x -> x.soonest(64 + 1), BAD);
            refused(busy(), x -> x.soonest(64 + 8), BAD);
            refused(busy(), x -> x.soonest(-1), BAD);
        });
    }

    private static void intime() {
        edge(27, "Likewise, each by the MINUTE by which it wants to be (AWAKE at its end;", () -> {
            due(in("s010 h9901").intime(1, 0), 1);
            refused(in("s010 h9900"), x -> x.intime(1, 0), NONE);
            due(in("s010 h9901 h9903").intime(3, 0), 3);
            refused(in("s010 h9901 h9902"), x -> x.intime(3, 0), NONE);
            due(in("s010 d9999 i4906").intime(2, 0), 6);
            refused(in("s010 d9999 i4905"), x -> x.intime(2, 0), NONE);
        });
        edge(27, "the MINUTES from now on are added to the MINUTE that it is):", () -> {
            WokenYears x = in("s010 h9903 h9902");
            due(x.walk(1), 1);
            due(x.intime(2, 0), 1);
            due(x.walk(0), 2);
            due(x.intime(1, 0), 1);
            refused(x, y -> y.intime(2, 0), NONE);
            // 95 minutes of walks, then taps
            WokenYears late = in(EASY);
            for (int k = 1; k <= 19; k++) {
                due(late.walk(5 * (k % 2)), 5 * k);
            }
            tap(late, 2);
            due(late.intime(16, 0), 2);
            tap(late, 1);
            refused(late, y -> y.intime(16, 0), NONE);
            due(late.night(), 1);
            due(late.intime(16, 0), 5);
        });
        edge(27, "the fewest MINUTES;", () -> {
            refused(new WokenYears(), x -> x.intime(0, 9), BAD);
            WokenYears x = new WokenYears();
            due(x.intime(0, 0), 0);
            isRow(x, 0);
            due(in(EASY).intime(63, 0), 11);
            due(in("s010 h9907 h9999 h9903").intime(7, 0), 2 + 1 + 1 + 1 + 1 + 1);
            due(in("s010 h9906 h9999 h9903").intime(7, 0), 2 + 1 + 2 + 1 + 1 + 1);
            due(in("s010 h9906 h9999 h9903").intime(5, 0), 2 + 1 + 2 + 1);
        });
    }

    private static void order() {
        edge(27, "the first order of HOUSES by which it is so (ROUND by ROUND, each walked to, tapped till it is AWAKE, then the next one)", () -> {
            WokenYears x = in("s010 h9999 h9999 h9999");
            due(x.walk(1), 1);
            due(x.intime(7, 5), 6);
            isRow(x, 5, 0, 1, 2);
            due(x.intime(5, 5), 5);
            isRow(x, 5, 0, 2);
            due(x.intime(6, 5), 3);
            isRow(x, 5, 1, 2);
            WokenYears right = in("s010 h9999 h9999 h9904");
            due(right.walk(1), 1);
            due(right.intime(5, 0), 5);
            isRow(right, 0, 2, 0);
            WokenYears back = in("s010 h9907 h9999 h9903");
            due(back.intime(7, 0), 7);
            isRow(back, 0, 2, 1, 0);
            WokenYears twice = in("s010 h9906 h9999 h9903");
            due(twice.intime(7, 0), 8);
            isRow(twice, 0, 2, 0, 1);
            WokenYears all = in(EASY);
            due(all.intime(63, 0), 11);
            isRow(all, 0, 0, 1, 2, 3, 4, 5);
            due(all.walk(5), 5);
            due(all.intime(63, 0), 11);
            isRow(all, 0, 5, 4, 3, 2, 1, 0);
        });
        edge(27, "comes to a ROW (anew).", () -> {
            WokenYears x = busy();
            due(x.intime(0, 5), 0);
            isRow(x, 5);
            due(x.intime(0, 2), 0);
            isRow(x, 2);
            due(x.count(10), 4);
            due(x.night(), 1);
            due(x.intime(2 + 4, 0), 8);
            isRow(x, 0, 2, 1);
            due(x.intime(1 + 2 + 4, 1), 2 + 2 + 1 + 1 + 4);
            isRow(x, 1, 0, 2, 1);
        });
        edge(TERMS, "NONE -9 (as an answer: a ROW that would come anew stays).", () -> {
            WokenYears x = busy();
            due(x.walk(3), 5);
            due(x.walk(2), 6);
            refused(x, y -> y.intime(4, 0), NONE);
            refused(x, y -> y.intime(4, 2), NONE);
            isRow(x, 0, 4, -5, 6);
            finds(x, y -> y.at(2, 0), NOTHING);
        });
    }

    private static void intimeRefused() {
        edge(27, "NONE: it can't be.", () -> {
            WokenYears late = in("s010 h9900 h9999");
            rowOf(late, 0, 4, 5);
            refused(late, x -> x.intime(1, 0), NONE);
            isRow(late, 0, 4, 5);
            refused(late, x -> x.intime(3, 0), NONE);
            refused(late, x -> x.intime(1, 3), NONE);
            finds(late, x -> x.at(3, 0), NOTHING);
            due(late.intime(2, 0), 2);
        });
        edge(27, "BAD;", () -> {
            for (int set : outside(0, 63)) {
                refused(busy(), x -> x.intime(set, 0), BAD);
            }
            for (int r : outside(0, 5)) {
                refused(busy(), x -> x.intime(0, r), BAD);
                refused(busy(), x -> x.intime(2, r), BAD);
            }
            refused(in("s010h3209"), x -> x.intime(2, 0), BAD);
            refused(new WokenYears(), x -> x.intime(1, 0), BAD);
        });
        edge(27, "STATE. (STATE last.)", () -> {
            refused(busy(), x -> x.intime(1, 0), STATE);
            refused(busy(), x -> x.intime(8, 0), STATE);
            refused(busy(), x -> x.intime(63, 2), STATE);
            refused(in("s110 h4500"), x -> x.intime(1, 0), STATE);
            refused(in("s010 d9900 h9900"), x -> x.intime(3, 0), STATE);
            refused(busy(), x -> x.intime(1, 6), BAD);
            refused(busy(), x -> x.intime(8, -1), BAD);
            refused(busy(), x -> x.intime(64 + 1, 0), BAD);
        });
    }

    private static void greatest(WokenYears x, int many, int which) {
        due(x.many(), many);
        due(x.asked(), which);
    }

    private static void many() {
        edge(28, "The greatest number of HOUSES (asleep, and can be woken) that can be AWAKE each by the MINUTE by which it wants to be;", () -> {
            greatest(in(EASY), 6, 63);
            greatest(in("s010 h9900 h9900"), 0, 0);
            greatest(in("s010 h9901 h9903 h9905"), 3, 7);
            greatest(in("s010 h9901 h9903 h9904"), 2, 3);
            // there is one order alone that wakes three, and orders of two of them that come later
            greatest(in("s010 h9906 h9903 h9905"), 3, 7);
            WokenYears mirrored = in("s010 h9907 h9905 h9908");
            due(mirrored.walk(2), 2);
            greatest(mirrored, 3, 7);
            greatest(in("s010 d9999"), 0, 0);
            greatest(in("s110 h4099 h4999 m4599 h3999"), 2, 12);
            WokenYears x = in("s010 h9999 h9902");
            due(x.tap(), 1);
            greatest(x, 0, 0);
            due(x.night(), 1);
            greatest(x, 2, 3);
            WokenYears late = in("s010 h9902 h9900");
            due(late.slate(0, 49), 99);
            greatest(late, 1, 1);
            due(late.tap(), 0);
            greatest(late, 1, 1);
            due(late.walk(1), 2);
            greatest(late, 0, 0);
        });
        edge(28, "which by asked() (bits; of as many the least number).", () -> {
            WokenYears x = in("s010 h9903 d9999 h9903");
            due(x.walk(1), 1);
            greatest(x, 1, 1);
            greatest(in("s010 d9999 h9902 h9903"), 1, 2);
            greatest(in("s010 d9999 h9902 h9903 h9905"), 2, 2 + 8);
            greatest(in("s010 h9900 h9900 h9900 h9900 h9900 h9906"), 1, 32);
        });
        edge(28, "STATE: no HOUSES.", () -> refused(new WokenYears(), WokenYears::many, STATE));
    }

    private static void dates() {
        edge(29, "DATES on slates given anew to the HOUSES, one to each, so that neighbours are least far apart together (years between twos side by side): how far;", () -> {
            due(in("s010 h5500").dates(0), 0);
            due(in("s010 h5500 d5500").dates(0), 0);
            due(in("s010 h0000 h9900").dates(0), 99);
            due(in("s010 h0000 h9900 h0000 h9900 h0000 h9900").dates(0), 99);
            WokenYears x = in("s010 h9999 h0000");
            due(x.tap(), 1);
            due(x.slate(0, 3), 99);
            due(x.dates(0), 3);
        });
        edge(29, "the first such row (for each HOUSE the number of that whose DATE it has)", () -> {
            WokenYears one = in("s010 h5500");
            due(one.dates(0), 0);
            isRow(one, 0, 0);
            WokenYears same = in("s010 h5500 h5500 h5500 h5500 h5500 h5500");
            due(same.dates(0), 0);
            isRow(same, 0, 0, 1, 2, 3, 4, 5);
            WokenYears up = in("s010 h1000 h9000 h5000 h1000 h9000");
            due(up.dates(0), 80);
            isRow(up, 0, 0, 3, 2, 1, 4);
            WokenYears down = in("s010 h9000 h1000 h5000 h1000 h9000");
            due(down.dates(0), 80);
            isRow(down, 0, 0, 4, 2, 1, 3);
            WokenYears inner = in("s010 h5000 h9000 h1000");
            due(inner.dates(0), 80);
            isRow(inner, 0, 1, 0, 2);
            WokenYears inside = in("s010 h5000 h1000 h9000");
            due(inside.dates(0), 80);
            isRow(inside, 0, 1, 0, 2);
        });
        edge(29, "comes to a ROW (anew).", () -> {
            WokenYears x = busy();
            due(x.dates(5), 67);
            isRow(x, 5, 0, 4, 5, 1, 3, 2);
            due(x.dates(2), 67);
            isRow(x, 2, 0, 4, 5, 1, 3, 2);
            due(x.count(10), 4);
            due(x.dates(1), 67);
            isRow(x, 1, 0, 4, 5, 1, 3, 2);
        });
    }

    private static void datesRefused() {
        edge(29, "BAD;", () -> {
            for (int r : outside(0, 5)) {
                refused(busy(), x -> x.dates(r), BAD);
                refused(new WokenYears(), x -> x.dates(r), BAD);
            }
        });
        edge(29, "STATE: no HOUSES.", () -> {
            refused(new WokenYears(), x -> x.dates(0), STATE);
            refused(new WokenYears(), x -> x.dates(5), STATE);
        });
    }
}
