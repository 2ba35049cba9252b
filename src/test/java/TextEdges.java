/** The edges of texts and of what they tell: promises 8 to 11, and what the terms say of a town's text. */
final class TextEdges extends Edges {
    static void all() {
        text();
        put();
        fault();
        blanks();
        figures();
        houses();
        faults();
        town();
    }

    private static void text() {
        edge(8, "A TEXT is there with n blanks: n.", () -> {
            WokenYears x = new WokenYears();
            due(x.text(0, 0), 0);
            isText(x, 0, "");
            due(x.text(3, 60), 60);
            isText(x, 3, " ".repeat(60));
            due(x.count(11), 2);
            due(x.put(3, 0, 65), 1032);
            due(x.put(3, 1, 66), 1032);
            due(x.text(3, 1), 1);
            isText(x, 3, " ");
            due(x.text(3, 2), 2);
            isText(x, 3, "  ");
            due(x.count(11), 2);
        });
        edge(8, "BAD: also n above 60;", () -> {
            for (int t : outside(0, 3)) {
                refused(busy(), x -> x.text(t, 1), BAD);
                refused(busy(), x -> x.text(t, 61), BAD);
                refused(busy(), x -> x.text(t, -1), BAD);
            }
            refused(busy(), x -> x.text(0, 61), BAD);
            refused(busy(), x -> x.text(3, 61), BAD);
            refused(busy(), x -> x.text(3, MAX), BAD);
        });
        edge(8, "SIZE: below 0.", () -> {
            finds(busy(), x -> x.text(0, -1), SIZE);
            finds(busy(), x -> x.text(3, -1), SIZE);
            finds(busy(), x -> x.text(3, MIN), SIZE);
        });
    }

    private static void put() {
        edge(9, "Byte i of a TEXT is v, cut to a byte (-128 .. 127): what it was, and 1000 more.", () -> {
            WokenYears x = new WokenYears();
            due(x.text(3, 60), 60);
            int[][] cut = {{127, 127}, {128, -128}, {-128, -128}, {-129, 127}, {255, -1}, {256, 0}, {-256, 0},
                {MAX, -1}, {MIN, 0}, {0, 0}, {65 + 512, 65}};
            int was = 32;
            for (int[] one : cut) {
                due(x.put(3, 59, one[0]), 1000 + was);
                was = one[1];
            }
            due(x.put(3, 59, 1), 1000 + was);
            due(x.put(3, 0, 7), 1032);
            due(x.put(3, 0, 8), 1007);
            due(x.put(3, 1, 8), 1032);
        });
        edge(9, "BAD;", () -> {
            for (int t : outside(0, 3)) {
                refused(busy(), x -> x.put(t, 0, 1), BAD);
                refused(busy(), x -> x.put(t, -1, 1), BAD);
            }
        });
        edge(9, "NOTHING;", () -> {
            finds(busy(), x -> x.put(3, 0, 1), NOTHING);
            finds(busy(), x -> x.put(3, 60, 1), NOTHING);
            finds(new WokenYears(), x -> x.put(0, -1, 1), NOTHING);
        });
        edge(9, "BEYOND.", () -> {
            for (int i : outside(0, 34)) {
                finds(busy(), x -> x.put(0, i, 1), BEYOND);
            }
            for (int i : outside(0, 59)) {
                finds(busy(), x -> x.put(1, i, 1), BEYOND);
            }
            finds(busy(), x -> x.put(2, 0, 1), BEYOND);
        });
    }

    /** No fault: a town of so many houses. */
    private static void good(String signs, int houses) {
        WokenYears x = busy();
        write(x, 3, signs);
        refused(x, y -> y.fault(3), NONE);
        due(x.town(3), houses);
        due(x.count(0), houses);
    }

    private static void bad(String signs, int place) {
        WokenYears x = busy();
        write(x, 3, signs);
        refused(x, y -> y.fault(3), place);
        refused(x, y -> y.town(3), STATE);
    }

    private static void fault() {
        edge(10, "A FAULT of a TEXT;", () -> {
            bad("", 0);
            bad("t010h3209", 0);
            bad("s010h320", 8);
            WokenYears x = busy();
            due(x.fault(1), 60);
            due(x.fault(2), 0);
        });
        edge(10, "NONE: there is none.", () -> {
            refused(busy(), x -> x.fault(0), NONE);
            good("s010h3209", 1);
        });
        edge(10, "BAD;", () -> {
            for (int t : outside(0, 3)) {
                refused(busy(), x -> x.fault(t), BAD);
            }
        });
        edge(10, "NOTHING.", () -> {
            finds(busy(), x -> x.fault(3), NOTHING);
            finds(new WokenYears(), x -> x.fault(0), NOTHING);
        });
    }

    private static void blanks() {
        edge(TERMS, "blanks (32) ahead, between, behind as many as wanted,", () -> {
            good(" s010h3209", 1);
            good(" ".repeat(51) + "s010h3209", 1);
            good("s010" + " ".repeat(51) + "h3209", 1);
            good("s010h3209" + " ".repeat(51), 1);
            good("s010h3209" + " ".repeat(46) + "h3209", 2);
            good("s010h3209v4512", 2);
            good("   s010  h3209 v4512   r9905    d4899     i4130      m4425  ", 6);
            for (int sign : new int[] {9, 10, 13, 0, 31, 33, -96}) {
                WokenYears x = busy();
                write(x, 3, "s010 h3209");
                due(x.put(3, 4, sign), 1032);
                due(x.fault(3), 4);
            }
        });
        edge(TERMS, "none within items (an item: a letter and all its figures).", () -> {
            bad("s 010h3209", 1);
            bad("s0 10h3209", 2);
            bad("s01 0h3209", 3);
            bad("s010h 3209", 5);
            bad("s010h3 209", 6);
            bad("s010h32 09", 7);
            bad("s010h320 9", 8);
        });
    }

    private static void figures() {
        edge(TERMS, "First s (115),", () -> {
            bad("h3209", 0);
            bad("  h3209", 2);
            bad("S010h3209", 0);
            bad("r010h3209", 0);
            bad("010h3209", 0);
        });
        edge(TERMS, "whether there is FROST (0, 1, one figure),", () -> {
            good("s010h3209", 1);
            WokenYears x = in("s110h3209");
            due(x.count(5), 1);
            bad("s210h3209", 1);
            bad("s910h3209", 1);
            bad("s/10h3209", 1);
            bad("s0010h3209", 4);
        });
        edge(TERMS, "by how many years neighbours QUARREL (two figures, 00 .. 99).", () -> {
            due(in("s000h3209").count(13), 0);
            due(in("s009h3209").count(13), 9);
            due(in("s090h3209").count(13), 90);
            due(in("s199h3209").count(13), 99);
            bad("s0/0h3209", 2);
            bad("s0:0h3209", 2);
            bad("s00/h3209", 3);
            bad("s00:h3209", 3);
            bad("s01h3209", 3);
            bad("s0100h3209", 4);
        });
        edge(TERMS, "the DATE on its slate (two figures, 00 .. 99),", () -> {
            WokenYears x = in("s010h0009h9909");
            tells(x, x.house(0, 1), 0);
            tells(x, x.house(1, 1), 99);
            bad("s010h/009", 5);
            bad("s010h:009", 5);
            bad("s010h0/09", 6);
            bad("s010h0:09", 6);
        });
        edge(TERMS, "the MINUTE by which it wants to be woken (two figures, 00 .. 99).", () -> {
            WokenYears x = in("s010h3200h3299");
            tells(x, x.house(0, 2), 0);
            tells(x, x.house(1, 2), 99);
            bad("s010h32/0", 7);
            bad("s010h32:0", 7);
            bad("s010h320/", 8);
            bad("s010h320:", 8);
            bad("s010h32001", 9);
        });
    }

    private static void houses() {
        edge(TERMS, "Then HOUSES (1 to 6; 0, 1, .. along the street, as they come):", () -> {
            good("s010h0000", 1);
            good("s010h0000v0000r0000d0000i0000m0000", 6);
            bad("s010", 4);
            bad("s010 ", 5);
            WokenYears x = in("s010 m0100 h0200");
            tells(x, x.house(0, 1), 1);
            tells(x, x.house(1, 1), 2);
        });
        edge(TERMS, "0 HOUSE (h, 104), 1 HEAVY (v, 118; a HOUSE), 2 RICH (r, 114; a HOUSE), 3 DEAD (d, 100; a HOUSE), "
            + "4 INFANT (i, 105; a HEAVY), 5 MILL (m, 109; a RICH).", () -> {
            WokenYears x = in("s010 m0000 i0000 d0000 r0000 v0000 h0000");
            for (int i = 0; i < 6; i++) {
                tells(x, x.house(i, 0), 5 - i);
            }
            for (char c = 1; c < 128; c++) {
                if ("hvrdim ".indexOf(c) < 0) bad("s010" + c + "3209", 4);
            }
            bad("s010H3209", 4);
        });
    }

    private static void faults() {
        edge(TERMS, "A FAULT is the first place at which it can't go on so", () -> {
            bad("x210x", 0);
            bad("s2x0x", 1);
            bad("s0x0x", 2);
            bad("s010 xx x", 5);
            bad("s010 h3x0x h320", 7);
            bad("s010 h3209 q v451", 11);
        });
        edge(TERMS, "(a letter, a figure that is none such,", () -> {
            bad("s010x3209", 4);
            bad("s010s3209", 4);
            bad("s010h3209 s010", 10);
            bad("s010h32x9", 7);
            bad("s010h3209x", 9);
            WokenYears x = busy();
            write(x, 3, "s010h3209");
            due(x.put(3, 5, -77), 1051);
            due(x.fault(3), 5);
            due(x.put(3, 5, 51 + 256), 1000 - 77);
            due(x.fault(3), NONE);
        });
        edge(TERMS, "a seventh HOUSE: its place;", () -> {
            bad("s010h0000v0000r0000d0000i0000m0000h0000", 34);
            bad("s010h0000v0000r0000d0000i0000m0000   m", 37);
            bad("s010h0000v0000r0000d0000i0000m0000" + " ".repeat(25) + "h", 59);
            bad("s010h0000v0000r0000d0000i0000m0000x", 34);
            good("s010h0000v0000r0000d0000i0000m0000" + " ".repeat(26), 6);
        });
        edge(TERMS, "the TEXT's size, if its end comes too early,", () -> {
            bad("s", 1);
            bad("s0", 2);
            bad("s01", 3);
            bad("s010", 4);
            bad("s010   ", 7);
            bad("s010h", 5);
            bad("s010h3", 6);
            bad("s010h32", 7);
            bad("s010h320", 8);
            bad("s010h3209v", 10);
            bad("s010" + " ".repeat(55) + "h", 60);
        });
        edge(TERMS, "or there are blanks alone).", () -> {
            bad("", 0);
            bad(" ", 1);
            bad(" ".repeat(60), 60);
        });
    }

    private static void town() {
        edge(11, "A TOWN by a TEXT (anew: MINUTE 0, NIGHT 0, an empty PURSE, no DEEDS;", () -> {
            WokenYears x = busy();
            due(x.night(), 1);
            due(x.walk(3), 3);
            due(x.frost(1), 1);
            write(x, 3, "s007 m4321");
            due(x.town(3), 1);
            int[] counts = {1, 0, 0, 0, 0, 0, 0, 0, 0, 1, 3, 4, 0, 7};
            for (int what = 0; what <= 13; what++) {
                due(x.count(what), counts[what]);
            }
            int[] house = {5, 43, 21, 0, NONE, 2};
            for (int what = 0; what <= 5; what++) {
                tells(x, x.house(0, what), house[what]);
            }
            due(x.undo(0), 0);
            due(x.town(0), 6);
            due(x.count(7), 0);
            due(x.count(6), 0);
        });
        edge(11, "kept TOWNS go):", () -> {
            WokenYears x = busy();
            due(x.keep(2), 4);
            due(x.count(12), 2);
            due(x.town(0), 6);
            due(x.count(12), 0);
            for (int k = 0; k <= 2; k++) {
                int place = k;
                finds(x, y -> y.on(place), NOTHING);
            }
        });
        edge(11, "how many HOUSES.", () -> {
            good("s010h3209", 1);
            good("s010h3209v4512r9905d4899i4130", 5);
            good("s010h0000v0000r0000d0000i0000m0000", 6);
        });
        edge(11, "BAD;", () -> {
            for (int t : outside(0, 3)) {
                refused(busy(), x -> x.town(t), BAD);
            }
        });
        edge(11, "NOTHING;", () -> {
            finds(busy(), x -> x.town(3), NOTHING);
            finds(new WokenYears(), x -> x.town(0), NOTHING);
        });
        edge(11, "STATE: a FAULT.", () -> {
            refused(busy(), x -> x.town(1), STATE);
            refused(busy(), x -> x.town(2), STATE);
            bad("s010h3209h", 10);
            WokenYears none = new WokenYears();
            due(none.text(0, 9), 9);
            refused(none, x -> x.town(0), STATE);
            due(none.count(0), 0);
        });
        edge(11, "(STATE behind NOTHING.)", () -> finds(busy(), x -> x.town(3), NOTHING));
    }
}
