/** The edges of rows: promises 2 to 7. */
final class RowEdges extends Edges {
    static void all() {
        row();
        lay();
        at();
        tear();
        copy();
        copyRefused();
        mean();
    }

    private static void row() {
        edge(2, "A ROW is there with n ints 0: n.", () -> {
            WokenYears x = new WokenYears();
            due(x.row(0, 0), 0);
            isRow(x, 0);
            due(x.row(5, 40), 40);
            isRow(x, 5, times(40, 0));
            due(x.row(3, 1), 1);
            isRow(x, 3, 0);
            due(x.count(10), 3);
            rowOf(x, 3, 7, 8, 9);
            due(x.row(3, 2), 2);
            isRow(x, 3, 0, 0);
            due(x.row(3, 3), 3);
            isRow(x, 3, 0, 0, 0);
            due(x.row(3, 0), 0);
            isRow(x, 3);
            due(x.count(10), 3);
        });
        edge(2, "BAD: also n above 40;", () -> {
            for (int r : outside(0, 5)) {
                refused(busy(), x -> x.row(r, 1), BAD);
                refused(busy(), x -> x.row(r, 41), BAD);
                refused(busy(), x -> x.row(r, -1), BAD);
            }
            refused(busy(), x -> x.row(0, 41), BAD);
            refused(busy(), x -> x.row(2, 41), BAD);
            refused(busy(), x -> x.row(5, MAX), BAD);
        });
        edge(2, "SIZE: below 0.", () -> {
            finds(busy(), x -> x.row(0, -1), SIZE);
            finds(busy(), x -> x.row(2, -1), SIZE);
            finds(busy(), x -> x.row(5, MIN), SIZE);
        });
    }

    private static void lay() {
        edge(3, "Place i of a ROW is v: what it was, told by asked(): 1.", () -> {
            WokenYears x = new WokenYears();
            due(x.row(5, 40), 40);
            tells(x, x.lay(5, 39, MIN), 0);
            tells(x, x.lay(5, 39, MAX), MIN);
            tells(x, x.lay(5, 39, -1), MAX);
            tells(x, x.lay(5, 0, 8), 0);
            tells(x, x.lay(5, 0, 9), 8);
            int[] all = times(40, 0);
            all[0] = 9;
            all[39] = -1;
            isRow(x, 5, all);
            rowOf(x, 0, 3);
            tells(x, x.lay(0, 0, 4), 3);
        });
        edge(3, "BAD;", () -> {
            for (int r : outside(0, 5)) {
                refused(busy(), x -> x.lay(r, 0, 1), BAD);
                refused(busy(), x -> x.lay(r, -1, 1), BAD);
            }
        });
        edge(3, "NOTHING;", () -> {
            finds(busy(), x -> x.lay(2, 0, 1), NOTHING);
            finds(busy(), x -> x.lay(4, -1, 1), NOTHING);
            finds(new WokenYears(), x -> x.lay(0, MAX, 1), NOTHING);
        });
        edge(3, "BEYOND.", () -> {
            for (int i : outside(0, 2)) {
                finds(busy(), x -> x.lay(0, i, 1), BEYOND);
            }
            for (int i : outside(0, 39)) {
                finds(busy(), x -> x.lay(5, i, 1), BEYOND);
            }
            finds(busy(), x -> x.lay(1, 0, 1), BEYOND);
        });
    }

    private static void at() {
        edge(4, "Place i of a ROW, told by asked(): 1.", () -> {
            WokenYears x = busy();
            tells(x, x.at(0, 0), 4);
            tells(x, x.at(0, 1), -5);
            tells(x, x.at(0, 2), 6);
            tells(x, x.at(5, 39), 0);
            tells(x, x.lay(5, 39, MIN), 0);
            tells(x, x.at(5, 39), MIN);
            tells(x, x.at(5, 0), 0);
        });
        edge(4, "BAD;", () -> {
            for (int r : outside(0, 5)) {
                refused(busy(), x -> x.at(r, 0), BAD);
                refused(busy(), x -> x.at(r, -1), BAD);
            }
        });
        edge(4, "NOTHING;", () -> {
            finds(busy(), x -> x.at(2, 0), NOTHING);
            finds(busy(), x -> x.at(4, 40), NOTHING);
            finds(new WokenYears(), x -> x.at(5, MIN), NOTHING);
        });
        edge(4, "BEYOND.", () -> {
            for (int i : outside(0, 2)) {
                finds(busy(), x -> x.at(0, i), BEYOND);
            }
            for (int i : outside(0, 39)) {
                finds(busy(), x -> x.at(5, i), BEYOND);
            }
            finds(busy(), x -> x.at(1, 0), BEYOND);
            WokenYears shorter = busy();
            due(shorter.row(0, 2), 2);
            finds(shorter, x -> x.at(0, 2), BEYOND);
        });
    }

    private static void tear() {
        edge(5, "A ROW is missing: 1.", () -> {
            WokenYears x = busy();
            int[] there = {0, 1, 5};
            for (int k = 0; k < 3; k++) {
                int r = there[k];
                due(x.tear(r), 1);
                finds(x, y -> y.at(r, 0), NOTHING);
                due(x.count(10), 2 - k);
            }
            due(x.row(0, 3), 3);
            isRow(x, 0, 0, 0, 0);
            due(x.asked(), 0);
        });
        edge(5, "BAD;", () -> {
            for (int r : outside(0, 5)) {
                refused(busy(), x -> x.tear(r), BAD);
            }
        });
        edge(5, "NOTHING.", () -> {
            finds(busy(), x -> x.tear(2), NOTHING);
            WokenYears torn = busy();
            due(torn.tear(5), 1);
            finds(torn, x -> x.tear(5), NOTHING);
            finds(new WokenYears(), x -> x.tear(0), NOTHING);
        });
    }

    private static WokenYears twoRows() {
        WokenYears x = busy();
        rowOf(x, 2, 1, 2, 3, 4, 5);
        return x;
    }

    private static void copy() {
        edge(6, "n places of a ROW, from one on, come to those of another one (perhaps itself) from one on, as if taken ahead: 1.", () -> {
            WokenYears x = twoRows();
            due(x.copy(2, 2, 0, 0, 3), 1);
            isRow(x, 0, 3, 4, 5);
            due(x.copy(2, 0, 0, 2, 1), 1);
            isRow(x, 0, 3, 4, 1);
            due(x.copy(2, 0, 2, 1, 4), 1);
            isRow(x, 2, 1, 1, 2, 3, 4);
            due(x.copy(2, 1, 2, 0, 4), 1);
            isRow(x, 2, 1, 2, 3, 4, 4);
            due(x.copy(2, 0, 2, 0, 5), 1);
            isRow(x, 2, 1, 2, 3, 4, 4);
            due(x.copy(2, 4, 0, 1, 0), 1);
            isRow(x, 0, 3, 4, 1);
        });
        edge(6, "n places of a ROW, from one on, come to those of another one", () -> {
            WokenYears x = twoRows();
            int[] told = times(40, 6);
            for (int k = 0; k < 40; k++) {
                tells(x, x.lay(5, k, 6), 0);
            }
            due(x.row(4, 40), 40);
            due(x.copy(5, 0, 4, 0, 40), 1);
            isRow(x, 4, told);
            due(x.asked(), 6);
        });
    }

    private static void copyRefused() {
        edge(6, "BAD;", () -> {
            for (int r : outside(0, 5)) {
                refused(busy(), x -> x.copy(r, 0, 0, 0, 1), BAD);
                refused(busy(), x -> x.copy(0, 0, r, 0, 1), BAD);
                refused(busy(), x -> x.copy(0, 0, r, 0, 0), BAD);
            }
        });
        edge(6, "SIZE: n below 0;", () -> {
            finds(busy(), x -> x.copy(0, 0, 5, 0, -1), SIZE);
            finds(busy(), x -> x.copy(0, 0, 5, 0, MIN), SIZE);
            finds(busy(), x -> x.copy(0, 2, 0, 2, -2), SIZE);
        });
        edge(6, "NOTHING: either;", () -> {
            finds(busy(), x -> x.copy(2, 0, 0, 0, 1), NOTHING);
            finds(busy(), x -> x.copy(0, 0, 2, 0, 1), NOTHING);
            finds(busy(), x -> x.copy(0, 0, 4, 0, 0), NOTHING);
            finds(busy(), x -> x.copy(3, 0, 3, 0, 0), NOTHING);
        });
        edge(6, "BEYOND: not so many there", () -> {
            finds(busy(), x -> x.copy(0, 0, 5, 0, 4), BEYOND);
            finds(busy(), x -> x.copy(0, 1, 5, 0, 3), BEYOND);
            finds(busy(), x -> x.copy(0, 3, 5, 0, 1), BEYOND);
            finds(busy(), x -> x.copy(0, -1, 5, 0, 1), BEYOND);
            finds(busy(), x -> x.copy(5, 0, 0, 0, 4), BEYOND);
            finds(busy(), x -> x.copy(5, 0, 0, 3, 1), BEYOND);
            finds(busy(), x -> x.copy(5, 0, 0, -1, 1), BEYOND);
            finds(busy(), x -> x.copy(1, 0, 1, 0, 1), BEYOND);
            finds(busy(), x -> x.copy(0, 1, 5, 0, MAX), BEYOND);
            finds(busy(), x -> x.copy(0, MAX, 5, 0, MAX), BEYOND);
            finds(busy(), x -> x.copy(0, MAX, 5, 0, 1), BEYOND);
            finds(busy(), x -> x.copy(0, 0, 5, MAX, 3), BEYOND);
            finds(busy(), x -> x.copy(0, MIN, 5, 0, 1), BEYOND);
            finds(busy(), x -> x.copy(0, 0, 5, MIN, MAX), BEYOND);
        });
        edge(6, "(with n 0, too, if i or j is below 0 or above the size).", () -> {
            finds(busy(), x -> x.copy(0, -1, 5, 0, 0), BEYOND);
            finds(busy(), x -> x.copy(0, 4, 5, 0, 0), BEYOND);
            finds(busy(), x -> x.copy(0, 0, 5, -1, 0), BEYOND);
            finds(busy(), x -> x.copy(0, 0, 5, 41, 0), BEYOND);
            finds(busy(), x -> x.copy(1, 1, 1, 0, 0), BEYOND);
            finds(busy(), x -> x.copy(0, MIN, 5, 0, 0), BEYOND);
            finds(busy(), x -> x.copy(0, 0, 5, MAX, 0), BEYOND);
            WokenYears x = busy();
            long before = x.digest();
            due(x.copy(0, 3, 5, 40, 0), 1);
            due(x.copy(0, 0, 5, 0, 0), 1);
            due(x.copy(1, 0, 1, 0, 0), 1);
            due(x.digest(), before);
        });
        edge(6, "(In this order.)", () -> {
            refused(busy(), x -> x.copy(6, -1, 2, -1, -1), BAD);
            refused(busy(), x -> x.copy(2, -1, -1, -1, -1), BAD);
            finds(busy(), x -> x.copy(2, -1, 0, -1, -1), SIZE);
            finds(busy(), x -> x.copy(0, 9, 2, 9, -1), SIZE);
            finds(busy(), x -> x.copy(2, -1, 0, 9, 1), NOTHING);
            finds(busy(), x -> x.copy(0, 9, 2, -1, 1), NOTHING);
        });
    }

    private static void mean() {
        edge(7, "The mean of a ROW's ints, cut, told by asked(): 1.", () -> {
            WokenYears x = new WokenYears();
            rowOf(x, 0, 1, 2, 5);
            tells(x, x.mean(0), 2);
            rowOf(x, 0, 1, 2, 2);
            tells(x, x.mean(0), 1);
            rowOf(x, 0, -1, -2, -2);
            tells(x, x.mean(0), -1);
            rowOf(x, 0, -1, 0);
            tells(x, x.mean(0), 0);
            rowOf(x, 0, MIN);
            tells(x, x.mean(0), MIN);
            rowOf(x, 0, MIN, MAX);
            tells(x, x.mean(0), 0);
            rowOf(x, 0, MAX, MAX, MAX - 1);
            tells(x, x.mean(0), MAX - 1);
        });
        edge(7, "The mean of a ROW's ints, cut", () -> {
            for (int v : new int[] {MIN, MAX}) {
                WokenYears x = new WokenYears();
                rowOf(x, 5, times(40, v));
                tells(x, x.mean(5), v);
            }
        });
        edge(7, "BAD;", () -> {
            for (int r : outside(0, 5)) {
                refused(busy(), x -> x.mean(r), BAD);
            }
        });
        edge(7, "NOTHING;", () -> {
            finds(busy(), x -> x.mean(2), NOTHING);
            finds(new WokenYears(), x -> x.mean(5), NOTHING);
        });
        edge(7, "NOUGHT.", () -> finds(busy(), x -> x.mean(1), NOUGHT));
    }
}
