/** The edges of what is learnt by taps, of pay, of turns, and of chances: promises 30 to 37. */
final class PayEdges extends Edges {
    static void all() {
        pairs();
        whose();
        kinds();
        test();
        sets();
        sure();
        duel();
        odds();
        mid();
    }

    private static int asks(WokenYears x, int which, int r) {
        return which == 30 ? x.whose(r) : which == 31 ? x.kinds(r) : x.test(r);
    }

    private static WokenYears with(int... values) {
        WokenYears x = busy();
        rowOf(x, 0, values);
        return x;
    }

    private static void pairs() {
        edge(TERMS, "by how many taps it took (a ROW of pairs, 0 to 8:", () -> {
            due(with().whose(0), 63);
            due(with().kinds(0), 63);
            due(with().test(0), 0);
            int[] eight = {0, 2, 49, 2, 50, 1, 99, 1, 1, 2, 2, 2, 3, 2, 98, 1};
            due(with(eight).whose(0), 37);
            due(with(eight).kinds(0), 37);
            due(with(eight).test(0), 0);
            eight[15] = 2;
            due(with(eight).whose(0), 0);
            eight[15] = 1;
            eight[1] = 4;
            due(with(eight).kinds(0), 0);
        });
        edge(TERMS, "a DATE 0 .. 99, how many taps it TOOK 0 .. 9,", () -> {
            due(with(0, 2).kinds(0), 37);
            due(with(99, 1).kinds(0), 37);
            due(with(0, 9).kinds(0), 0);
            due(with(0, 0).kinds(0), 8);
        });
        edge(TERMS, "0: it could not be woken;", () -> {
            due(with(0, 0, 99, 0).whose(0), 8);
            due(with(0, 0, 99, 0).kinds(0), 8);
            due(with(45, 0).kinds(0), 8);
            WokenYears cold = with(40, 0, 49, 0, 39, 2);
            due(cold.kinds(0), 0);
            due(cold.frost(1), 1);
            due(cold.kinds(0), 5);
            due(cold.whose(0), 5);
        });
        edge(TERMS, "FROST as it is: NOTHING; SIZE; UNLIKE; behind BAD).", () -> {
            for (int which = 30; which <= 32; which++) {
                int call = which;
                refused(with(100, 10, 0), x -> asks(x, call, 6), BAD);
                finds(with(100, 10, 0), x -> asks(x, call, 2), NOTHING);
                finds(with(100, 10, 0), x -> asks(x, call, 0), SIZE);
                finds(with(-1, -1, -1), x -> asks(x, call, 0), SIZE);
            }
            WokenYears cold = with(45, 2);
            due(cold.kinds(0), 37);
            due(cold.frost(1), 1);
            due(cold.kinds(0), 32);
            due(cold.whose(0), 32);
        });
    }

    /** What all three calls refuse alike. */
    private static void refusals(int which) {
        edge(which, "BAD;", () -> {
            for (int r : outside(0, 5)) {
                refused(busy(), x -> asks(x, which, r), BAD);
            }
        });
        edge(which, "NOTHING;", () -> {
            finds(busy(), x -> asks(x, which, 2), NOTHING);
            finds(new WokenYears(), x -> asks(x, which, 5), NOTHING);
        });
        edge(which, "SIZE;", () -> {
            finds(with(10), x -> asks(x, which, 0), SIZE);
            finds(busy(), x -> asks(x, which, 0), SIZE);
            finds(with(new int[15]), x -> asks(x, which, 0), SIZE);
            finds(with(new int[17]), x -> asks(x, which, 0), SIZE);
            finds(with(new int[18]), x -> asks(x, which, 0), SIZE);
            finds(busy(), x -> asks(x, which, 5), SIZE);
            due(asks(with(new int[16]), which, 0), which == 32 ? 0 : 8);
        });
        edge(which, "UNLIKE.", () -> {
            for (int date : outside(0, 99)) {
                finds(with(date, 1), x -> asks(x, which, 0), UNLIKE);
                finds(with(0, 2, date, 1), x -> asks(x, which, 0), UNLIKE);
                finds(with(0, 9, date, 1), x -> asks(x, which, 0), UNLIKE);
            }
            for (int took : outside(0, 9)) {
                finds(with(1, took), x -> asks(x, which, 0), UNLIKE);
                finds(with(0, 2, 1, took), x -> asks(x, which, 0), UNLIKE);
            }
            finds(with(0, NONE), x -> asks(x, which, 0), UNLIKE);
            int[] last = new int[16];
            last[15] = 10;
            finds(with(last), x -> asks(x, which, 0), UNLIKE);
            last[15] = 0;
            last[14] = 100;
            finds(with(last), x -> asks(x, which, 0), UNLIKE);
        });
    }

    private static void whose() {
        edge(30, "Which HOUSES (bits) it can be by these.", () -> {
            due(with(0, 4).whose(0), 2);
            due(with(0, 3).whose(0), 0);
            WokenYears none = new WokenYears();
            due(none.row(0, 0), 0);
            due(none.whose(0), 0);
            WokenYears two = in("s010 i0000 h0000 i0000");
            rowOf(two, 0, 99, 3);
            due(two.whose(0), 5);
        });
        refusals(30);
    }

    private static void kinds() {
        edge(31, "Of which of all six KINDS (bits) it can be by these.", () -> {
            due(with(0, 4).kinds(0), 2);
            due(with(0, 5).kinds(0), 16);
            due(with(0, 3).kinds(0), 0);
            WokenYears none = new WokenYears();
            due(none.row(0, 0), 0);
            due(none.kinds(0), 63);
            WokenYears dead = in("s110 d0000");
            rowOf(dead, 0, 45, 0);
            due(dead.kinds(0), 31);
            due(dead.whose(0), 1);
        });
        refusals(31);
    }

    private static void best(WokenYears x, int date, int part) {
        due(x.test(0), date);
        due(x.asked(), part);
    }

    private static void test() {
        edge(32, "The DATE (0 .. 99; the first) by which these KINDS are told apart best:", () -> {
            best(with(), 0, 3);
            best(with(0, 0), 0, 1);
            WokenYears cold = with(0, 2);
            best(cold, 0, 3);
            due(cold.frost(1), 1);
            best(cold, 40, 2);
        });
        edge(32, "the greatest part of those to which it TAKES as many (or can't be woken) is least; that part by asked().", () -> {
            WokenYears cold = with(45, 0);
            due(cold.frost(1), 1);
            best(cold, 0, 2);
            best(with(0, 4), 0, 1);
            WokenYears none = new WokenYears();
            due(none.row(0, 0), 0);
            best(none, 0, 3);
        });
        edge(32, "NONE: there is no KIND.", () -> {
            refused(with(0, 3), x -> x.test(0), NONE);
            refused(with(0, 2, 0, 4), x -> x.test(0), NONE);
            refused(with(0, 9), x -> x.test(0), NONE);
        });
        refusals(32);
    }

    private static void pay(WokenYears x, int v, int many, int first) {
        ratio(x, x.sets(v), many, 1);
        due(x.asked(), first);
    }

    private static final String MILLS = "s010 m0000 m0000 m0000 m0000 m0000 m0000";

    private static void sets() {
        edge(33, "How many sets of HOUSES (that of none, too) PAY v (0 .. 99) together, told by upper() (lower() is 1);", () -> {
            pay(busy(), 0, 2, 0);
            pay(in("s010 h0000"), 0, 1, 0);
            pay(in("s010 d0000 d0000 d0000 d0000 d0000 d0000"), 0, 64, 0);
            pay(in("s010 d0000"), 1, 0, NONE);
            pay(in(MILLS), 5, 6, 1);
            pay(in(MILLS), 15, 20, 7);
            pay(in(MILLS), 30, 1, 63);
            pay(in(MILLS), 31, 0, NONE);
        });
        edge(33, "the first (the least as bits) by asked() (bits; NONE): 1.", () -> {
            pay(in("s010 r0000 h0000 h0000"), 2, 2, 1);
            pay(in("s010 h0000 h0000 r0000"), 2, 2, 3);
            pay(busy(), 10, 2, 55);
            pay(busy(), 11, 0, NONE);
            pay(busy(), 99, 0, NONE);
        });
        edge(33, "BAD;", () -> {
            for (int v : outside(0, 99)) {
                refused(busy(), x -> x.sets(v), BAD);
                refused(new WokenYears(), x -> x.sets(v), BAD);
            }
        });
        edge(33, "STATE: no HOUSES.", () -> {
            refused(new WokenYears(), x -> x.sets(0), STATE);
            refused(new WokenYears(), x -> x.sets(99), STATE);
        });
    }

    private static void surely(WokenYears x, int v, int each, int never) {
        due(x.sure(v), each);
        due(x.asked(), never);
    }

    private static void sure() {
        edge(34, "HOUSES (bits) that are in each such set; those in none by asked().", () -> {
            surely(busy(), 0, 0, 55);
            surely(busy(), 10, 55, 0);
            surely(busy(), 9, 36, 0);
            surely(in("s010 h0000"), 0, 0, 1);
            surely(in("s010 h0000"), 1, 1, 0);
            surely(in("s010 d0000"), 0, 0, 0);
            surely(in(MILLS), 30, 63, 0);
            surely(in(MILLS), 0, 0, 63);
            WokenYears x = busy();
            surely(x, 10, 55, 0);
            due(x.upper(), 1);
            due(x.lower(), 16);
        });
        edge(34, "BAD;", () -> {
            for (int v : outside(0, 99)) {
                refused(busy(), x -> x.sure(v), BAD);
            }
        });
        edge(34, "STATE;", () -> {
            refused(new WokenYears(), x -> x.sure(0), STATE);
            refused(new WokenYears(), x -> x.sure(99), STATE);
        });
        edge(34, "NOUGHT: there is no set.", () -> {
            finds(busy(), x -> x.sure(11), NOUGHT);
            finds(busy(), x -> x.sure(99), NOUGHT);
            finds(in("s010 d0000"), x -> x.sure(1), NOUGHT);
            finds(in(MILLS), x -> x.sure(1), NOUGHT);
        });
        edge(34, "(In this order.)", () -> {
            refused(new WokenYears(), x -> x.sure(100), BAD);
            refused(new WokenYears(), x -> x.sure(-1), BAD);
            refused(new WokenYears(), x -> x.sure(11), STATE);
        });
    }

    private static void duel() {
        edge(35, "By turns two tap, n (0 .. 3) times each, wherever they are: the first one at HOUSES of even numbers, "
            + "the other one at those of odd numbers, or not at all;", () -> {
            int[] one = {0, 1, 1, 1};
            int[] other = {0, -1, -1, -1};
            int[] both = {0, 0, 0, 0};
            int[] infant = {0, 0, 0, 1};
            int[] three = {0, -1, -2, -3};
            for (int n = 0; n <= 3; n++) {
                int taps = n;
                WokenYears alone = in("s010 h9999");
                tells(alone, alone.duel(taps), one[n]);
                WokenYears dead = in("s010 d9999 h9999");
                tells(dead, dead.duel(taps), other[n]);
                WokenYears alike = in("s010 h9999 h9999 h9999 h9999 h9999 h9999");
                tells(alike, alike.duel(taps), both[n]);
                WokenYears heavy = in("s010 i5099 i4999");
                tells(heavy, heavy.duel(taps), infant[n]);
                WokenYears odd = in("s110 h4099 h9999 h4999 h9999 v4500 h9999");
                tells(odd, odd.duel(taps), three[n]);
            }
        });
        edge(35, "each wants to have more HOUSES of its own AWAKE than the other one: how many more the first one has then, told by asked(): 1.", () -> {
            WokenYears x = busy();
            tells(x, x.duel(0), 1);
            tells(x, x.duel(1), 2);
            due(x.walk(1), 5);
            tap(x, 2);
            tells(x, x.duel(2), 1);
            tells(x, x.duel(3), 1);
            due(x.night(), 1);
            tells(x, x.duel(0), 0);
            WokenYears least = in("s010 v0000 d9999 h9999 d9999 h0000");
            tells(least, least.duel(3), 2);
        });
        edge(35, "BAD;", () -> {
            for (int n : outside(0, 3)) {
                refused(busy(), x -> x.duel(n), BAD);
                refused(new WokenYears(), x -> x.duel(n), BAD);
            }
        });
        edge(35, "STATE: no HOUSES.", () -> {
            refused(new WokenYears(), x -> x.duel(0), STATE);
            refused(new WokenYears(), x -> x.duel(3), STATE);
        });
    }

    private static void odds() {
        edge(36, "Chances that a HOUSE (from as it is) is AWAKE behind n (0 .. 8) taps more, "
            + "if each is heard (else it counts not) by p (0 .. 12) of 12, each by itself: 1.", () -> {
            WokenYears x = busy();
            ratio(x, x.odds(0, 0, 0), 1, 1);
            ratio(x, x.odds(0, 8, 12), 1, 1);
            ratio(x, x.odds(1, 0, 12), 0, 1);
            ratio(x, x.odds(1, 3, 12), 0, 1);
            ratio(x, x.odds(1, 4, 12), 1, 1);
            ratio(x, x.odds(1, 8, 0), 0, 1);
            ratio(x, x.odds(4, 8, 12), 1, 1);
            ratio(x, x.odds(2, 8, 1), 215622815, 429981696);
            ratio(x, x.odds(2, 8, 11), 429981695, 429981696);
            ratio(x, x.odds(3, 8, 12), 0, 1);
            ratio(x, x.odds(3, 0, 0), 0, 1);
        });
        edge(36, "(from as it is)", () -> {
            WokenYears x = in("s110 h4999");
            ratio(x, x.odds(0, 8, 12), 0, 1);
            tap(x, 3);
            due(x.frost(0), 0);
            ratio(x, x.odds(0, 0, 12), 0, 1);
            ratio(x, x.odds(0, 1, 6), 1, 2);
            due(x.tap(), 1);
            due(x.frost(1), 1);
            ratio(x, x.odds(0, 0, 0), 1, 1);
        });
        edge(36, "BAD.", () -> {
            for (int i : outside(0, 5)) {
                refused(busy(), x -> x.odds(i, 0, 0), BAD);
            }
            for (int n : outside(0, 8)) {
                refused(busy(), x -> x.odds(0, n, 0), BAD);
            }
            for (int p : outside(0, 12)) {
                refused(busy(), x -> x.odds(0, 0, p), BAD);
            }
            refused(in("s010h3209"), x -> x.odds(1, 0, 0), BAD);
            refused(new WokenYears(), x -> x.odds(0, 0, 0), BAD);
        });
        edge(TERMS, "are told by upper(), lower(), in lowest terms, the lower number above 0 (0 by 1).", () -> {
            WokenYears x = busy();
            ratio(x, x.odds(2, 1, 6), 1, 2);
            ratio(x, x.odds(2, 1, 4), 1, 3);
            ratio(x, x.odds(2, 1, 1), 1, 12);
            ratio(x, x.odds(2, 8, 0), 0, 1);
            ratio(x, x.mid(2, 8, 12), 0, 1);
            ratio(x, x.mid(4, 8, 0), 5, 1);
            ratio(x, x.sets(99), 0, 1);
            ratio(x, x.sets(0), 2, 1);
        });
    }

    private static void mid() {
        edge(37, "The mean of how many taps more it would take then till it is AWAKE", () -> {
            WokenYears x = busy();
            ratio(x, x.mid(4, 0, 12), 5, 1);
            ratio(x, x.mid(4, 8, 0), 5, 1);
            ratio(x, x.mid(4, 4, 12), 1, 1);
            ratio(x, x.mid(4, 5, 12), 0, 1);
            ratio(x, x.mid(4, 8, 12), 0, 1);
            ratio(x, x.mid(5, 3, 6), 5, 8);
            ratio(x, x.mid(1, 4, 6), 2, 1);
            ratio(x, x.mid(2, 8, 1), 214358881, 429981696);
            ratio(x, x.mid(2, 8, 11), 1, 429981696);
        });
        edge(37, "(0: it is): 1.", () -> {
            WokenYears x = busy();
            ratio(x, x.mid(0, 0, 0), 0, 1);
            ratio(x, x.mid(0, 8, 0), 0, 1);
            due(x.slate(0, 45), 32);
            due(x.frost(1), 1);
            ratio(x, x.mid(0, 3, 6), 0, 1);
        });
        edge(37, "BAD;", () -> {
            for (int i : outside(0, 5)) {
                refused(busy(), x -> x.mid(i, 0, 0), BAD);
            }
            for (int n : outside(0, 8)) {
                refused(busy(), x -> x.mid(0, n, 0), BAD);
                refused(busy(), x -> x.mid(3, n, 0), BAD);
            }
            for (int p : outside(0, 12)) {
                refused(busy(), x -> x.mid(0, 0, p), BAD);
                refused(busy(), x -> x.mid(3, 0, p), BAD);
            }
            refused(in("s010h3209"), x -> x.mid(1, 0, 0), BAD);
            refused(new WokenYears(), x -> x.mid(0, 0, 0), BAD);
        });
        edge(37, "NOUGHT: it can't be woken.", () -> {
            finds(busy(), x -> x.mid(3, 0, 0), NOUGHT);
            finds(busy(), x -> x.mid(3, 8, 12), NOUGHT);
            finds(in("s110 h4099"), x -> x.mid(0, 8, 12), NOUGHT);
            finds(in("s110 h4999"), x -> x.mid(0, 0, 0), NOUGHT);
            WokenYears mill = in("s110 m4999");
            ratio(mill, mill.mid(0, 0, 0), 2, 1);
        });
    }
}
