import java.util.ArrayList;
import java.util.List;
import java.util.Random;

/** Runs of calls by a fixed seed, answered by the class and by the model. */
public final class ModelTests {
    private static final Checks CHECKS = new Checks();
    private final Random random;
    private final List<String> told = new ArrayList<>();
    private final WokenYears years = new WokenYears();
    private final Model model = new Model();
    private final boolean wild;
    // of the object: what it answers behind its 512th call is free
    private int calls = 0;

    private ModelTests(long seed, boolean wild) {
        random = new Random(seed);
        this.wild = wild;
    }

    public static void main(String[] args) {
        int runs = Integer.getInteger("runs", 600);
        for (int run = 0; run < runs && CHECKS.wrong() == 0; run++) new ModelTests(run, run % 5 == 4).run();
        for (int run = 0; run < runs / 12 && CHECKS.wrong() == 0; run++) new ModelTests(7000 + run, false).minuteByMinute();
        CHECKS.end("ModelTests");
    }

    private int upTo(int most) {
        return random.nextInt(most + 1);
    }

    // mostly within the bounds, at times a step outside, in wild runs anything at all
    private int near(int least, int most) {
        if (wild && upTo(5) == 0) {
            int[] far = {Integer.MIN_VALUE, Integer.MAX_VALUE, -1, -9, 1 << 30, random.nextInt(), -least, most + 1};
            return far[upTo(far.length - 1)];
        }
        int edge = upTo(30);
        if (edge == 0) return least - 1;
        if (edge == 1) return most + 1;
        if (edge == 2) return least;
        if (edge == 3) return most;
        return least + random.nextInt(most - least + 1);
    }

    private int date() {
        int sort = upTo(9);
        if (sort < 4) return 36 + upTo(16);
        if (sort == 4) return near(0, 99);
        return upTo(99);
    }

    private String blanks() {
        return upTo(3) == 0 ? " ".repeat(1 + upTo(2)) : "";
    }

    private String two(int v) {
        return (char) ('0' + v / 10) + "" + (char) ('0' + v % 10);
    }

    private String townText(int houses) {
        StringBuilder text = new StringBuilder(blanks());
        text.append('s').append(upTo(2) == 0 ? 1 : 0).append(two(upTo(3) == 0 ? upTo(99) : upTo(20)));
        boolean alike = upTo(4) == 0;
        for (int i = 0; i < houses; i++) {
            text.append(blanks()).append("hvrdimhvrim".charAt(upTo(10)));
            text.append(two(alike ? 38 + upTo(3) : Math.min(99, Math.max(0, date()))));
            text.append(two(upTo(3) == 0 ? upTo(99) : upTo(30)));
        }
        return text.append(blanks()).toString();
    }

    private void write(int t, String signs) {
        String text = signs.length() > 60 ? signs.substring(0, 60) : signs;
        same("text(" + t + ", " + text.length() + ")", years.text(t, text.length()), model.text(t, text.length()));
        for (int i = 0; i < text.length(); i++) {
            alone("put(" + t + ", " + i + ", " + (int) text.charAt(i) + ")", years.put(t, i, text.charAt(i)), model.put(t, i, text.charAt(i)));
        }
    }

    private void spoil(int t) {
        String odd = "shvrdim0123456789 x\u0000";
        int i = upTo(59);
        int v = upTo(9) == 0 ? random.nextInt() : odd.charAt(upTo(odd.length() - 1));
        same("put(" + t + ", " + i + ", " + v + ")", years.put(t, i, v), model.put(t, i, v));
    }

    private void alone(String call, long got, long want) {
        told.add(call);
        calls++;
        int before = CHECKS.wrong();
        CHECKS.due(call, got, want);
        if (before == 0 && CHECKS.wrong() != 0) System.out.println("the run: " + told);
    }

    private void same(String call, long got, long want) {
        alone(call, got, want);
        alone("asked()", years.asked(), model.asked);
        alone("finding()", years.finding(), model.finding);
        alone("digest()", years.digest(), model.digest());
    }

    private void ratio(String call, long got, long want) {
        same(call, got, want);
        alone("upper()", years.upper(), model.upper.longValueExact());
        alone("lower()", years.lower(), model.lower.longValueExact());
    }

    private void run() {
        while (calls < 400 && CHECKS.wrong() == 0) {
            if (model.count(0) == 0 && upTo(4) == 0 || upTo(120) == 0) {
                int t = upTo(3);
                write(t, townText(1 + upTo(upTo(8) == 0 ? 6 : 5)));
                if (upTo(3) == 0) spoil(t);
                if (upTo(9) == 0) spoil(t);
                same("fault(" + t + ")", years.fault(t), model.fault(t));
                same("town(" + t + ")", years.town(t), model.town(t));
            }
            call(upTo(46));
        }
        for (int f = 0; f <= 6; f++) alone("findings(" + f + ")", years.findings(f), model.findings(f));
        ratio("count(14)", years.count(14), model.count(14));
        CHECKS.that("no more than 512 calls of an object: " + calls, calls <= 512);
    }

    private void call(int which) {
        int i = near(0, Math.max(0, model.count(0) - 1));
        if (which <= 8) rowCall(which);
        else if (which <= 12) textCall(which);
        else if (which <= 24) deedCall(which, i);
        else if (which <= 38) askCall(which, i);
        else pairCall(which);
    }

    private void rowCall(int which) {
        int r = near(0, 5);
        int n = near(0, 40);
        int v = wild ? random.nextInt() : near(-20, 20);
        int to = near(0, 5);
        int j = near(0, 20);
        int m = near(0, 12);
        switch (which) {
            case 0 -> same("row(" + r + ", " + n + ")", years.row(r, n), model.row(r, n));
            case 1, 2, 3 -> same("lay(" + r + ", " + j + ", " + v + ")", years.lay(r, j, v), model.lay(r, j, v));
            case 4 -> same("at(" + r + ", " + j + ")", years.at(r, j), model.at(r, j));
            case 5 -> {
                if (upTo(4) == 0) same("tear(" + r + ")", years.tear(r), model.tear(r));
            }
            case 6 -> same("copy(" + r + ", " + j + ", " + to + ", " + n + ", " + m + ")", years.copy(r, j, to, n, m), model.copy(r, j, to, n, m));
            case 7 -> same("copy(" + r + ", " + j + ", " + r + ", " + m + ", 3)", years.copy(r, j, r, m, 3), model.copy(r, j, r, m, 3));
            default -> same("mean(" + r + ")", years.mean(r), model.mean(r));
        }
    }

    private void textCall(int which) {
        int t = near(0, 3);
        int n = near(0, 60);
        switch (which) {
            case 9 -> same("text(" + t + ", " + n + ")", years.text(t, n), model.text(t, n));
            case 10 -> same("put(" + t + ", " + n + ", 200)", years.put(t, n, 200), model.put(t, n, 200));
            case 11 -> same("fault(" + t + ")", years.fault(t), model.fault(t));
            default -> {
                if (upTo(5) == 0) same("town(" + t + ")", years.town(t), model.town(t));
            }
        }
    }

    private void deedCall(int which, int i) {
        int date = date();
        int on = near(0, 1);
        int k = near(0, 2);
        switch (which) {
            case 13, 14 -> same("walk(" + i + ")", years.walk(i), model.walk(i));
            case 15, 16, 17 -> same("tap()", years.tap(), model.tap());
            case 18 -> same("slate(" + i + ", " + date + ")", years.slate(i, date), model.slate(i, date));
            case 19 -> same("frost(" + on + ")", years.frost(on), model.frost(on));
            case 20 -> {
                if (upTo(2) == 0) same("night()", years.night(), model.night());
            }
            case 21 -> {
                int n = near(0, model.count(3));
                if (upTo(2) == 0) same("undo(" + n + ")", years.undo(n), model.undo(n));
            }
            case 22 -> same("keep(" + k + ")", years.keep(k), model.keep(k));
            case 23 -> {
                if (upTo(2) == 0) same("on(" + k + ")", years.on(k), model.on(k));
            }
            default -> {
                int n = near(1, 20);
                int seed = upTo(9) == 0 ? near(1, 2147483646) : 1 + upTo(1 << 30);
                if (upTo(3) == 0) same("lots(" + n + ", " + seed + ")", years.lots(n, seed), model.lots(n, seed));
            }
        }
    }

    private void askCall(int which, int i) {
        int what = near(0, 5);
        int date = date();
        int n = near(0, 8);
        int p = near(0, 12);
        int set = wild && upTo(3) == 0 ? random.nextInt() : near(0, (1 << model.count(0)) - 1) & ~(upTo(2) == 0 ? 0 : model.count(6));
        int v = upTo(4) == 0 ? near(0, 99) : near(0, 12);
        int r = near(0, 5);
        switch (which) {
            case 25 -> same("house(" + i + ", " + what + ")", years.house(i, what), model.house(i, what));
            case 26 -> same("mark(" + i + ", " + what + ")", years.mark(i, what), model.mark(i, what));
            case 27 -> same("takes(" + i + ", " + date + ")", years.takes(i, date), model.takes(i, date));
            case 28 -> same("pays(" + i + ")", years.pays(i), model.pays(i));
            case 29 -> same("who(" + date + ", " + n + ")", years.who(date, n), model.who(date, n));
            case 30 -> same("quarrels()", years.quarrels(), model.quarrels());
            case 31 -> same("soonest(" + set + ")", years.soonest(set), model.soonest(set));
            case 32 -> same("intime(" + set + ", " + r + ")", years.intime(set, r), model.intime(set, r));
            case 33 -> same("many()", years.many(), model.many());
            case 34 -> same("dates(" + r + ")", years.dates(r), model.dates(r));
            case 35 -> ratio("sets(" + v + ")", years.sets(v), model.sets(v));
            case 36 -> same("sure(" + v + ")", years.sure(v), model.sure(v));
            case 37 -> same("duel(" + what + ")", years.duel(what), model.duel(what));
            default -> {
                ratio("odds(" + i + ", " + n + ", " + p + ")", years.odds(i, n, p), model.odds(i, n, p));
                ratio("mid(" + i + ", " + n + ", " + p + ")", years.mid(i, n, p), model.mid(i, n, p));
            }
        }
    }

    private void pairCall(int which) {
        int r = near(0, 5);
        if (which < 43) {
            int pairs = upTo(9) == 0 ? near(0, 10) : upTo(3);
            int size = 2 * pairs + (upTo(15) == 0 ? 1 : 0);
            same("row(" + r + ", " + size + ")", years.row(r, size), model.row(r, size));
            int kind = model.count(0) == 0 ? -1 : upTo(model.count(0) - 1);
            for (int k = 0; k + 1 < Math.min(size, 42); k += 2) {
                int date = date();
                int took = kind < 0 || upTo(8) == 0 ? near(0, 9) : Math.max(0, model.takes(kind, Math.max(0, date)));
                alone("lay(" + r + ", " + k + ", " + date + ")", years.lay(r, k, date), model.lay(r, k, date));
                alone("lay(" + r + ", " + (k + 1) + ", " + took + ")", years.lay(r, k + 1, took), model.lay(r, k + 1, took));
            }
        }
        same("whose(" + r + ")", years.whose(r), model.whose(r));
        same("kinds(" + r + ")", years.kinds(r), model.kinds(r));
        same("test(" + r + ")", years.test(r), model.test(r));
    }

    // no way of going, tap by tap, is sooner than the rounds that are told
    private void minuteByMinute() {
        write(0, townText(1 + upTo(3)));
        same("town(0)", years.town(0), model.town(0));
        int deeds = upTo(4);
        if (deeds > 0) {
            int seed = 1 + upTo(1 << 30);
            same("lots(" + deeds + ", " + seed + ")", years.lots(deeds, seed), model.lots(deeds, seed));
        }
        for (int set = 0; set < 1 << model.count(0); set++) {
            int told = years.soonest(set);
            if (told < 0) continue;
            CHECKS.due("soonest(" + set + ") minute by minute", told, model.minuteByMinute(set, true));
            CHECKS.due("intime(" + set + ") minute by minute", years.intime(set, 0), model.minuteByMinute(set, false));
        }
    }
}
