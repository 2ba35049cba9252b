import java.math.BigInteger;
import java.util.ArrayList;
import java.util.Arrays;
import java.util.HashMap;
import java.util.HashSet;
import java.util.List;
import java.util.Map;
import java.util.Set;
import java.util.TreeMap;
import java.util.regex.Matcher;
import java.util.regex.Pattern;

/**
 * The document told a second time, by other means than the class uses: snapshots, searches of every
 * order, every set, every turn. Slow and plain, so that both are unlikely to be wrong alike.
 */
final class Model {
    static final int BAD = -1, FULL = -2, FINDING = -3, STATE = -4, NONE = -9;
    private static final Pattern TOWN = Pattern.compile(" *s([01])(\\d\\d)((?: *[hvrdim]\\d\\d\\d\\d){1,6}) *");
    private static final String LETTERS = "hvrdim";

    /** One house; never changed, but made anew. */
    record House(int kind, int date, int want, int tapped, int year) { }

    /** A town as it is; never changed, but made anew. */
    record State(List<House> houses, boolean frost, int minute, int night, int place, int purse) { }

    final Map<Integer, int[]> rows = new TreeMap<>();
    final Map<Integer, byte[]> texts = new TreeMap<>();
    final Map<Integer, List<State>> kept = new TreeMap<>();
    // the state ahead of each deed, and last the state now
    List<State> past = new ArrayList<>(List.of(new State(List.of(), false, 0, 0, 0, 0)));
    int quarrel = 0;
    int finding = 0;
    final int[] findings = new int[6];
    int asked = 0;
    BigInteger upper = BigInteger.ZERO;
    BigInteger lower = BigInteger.ONE;

    private State now() {
        return past.get(past.size() - 1);
    }

    private int deeds() {
        return past.size() - 1;
    }

    private int houses() {
        return now().houses().size();
    }

    private House at(int i) {
        return now().houses().get(i);
    }

    private boolean none(int i) {
        return i < 0 || i >= houses();
    }

    private int found(int f) {
        finding = f;
        findings[f]++;
        return FINDING;
    }

    private int tell(int v) {
        asked = v;
        return 1;
    }

    // ---- 1

    int row(int r, int n) {
        if (r < 0 || r > 5 || n > 40) return BAD;
        if (n < 0) return found(5);
        rows.put(r, new int[n]);
        return n;
    }

    int lay(int r, int i, int v) {
        if (r < 0 || r > 5) return BAD;
        int[] row = rows.get(r);
        if (row == null) return found(1);
        if (i < 0 || i >= row.length) return found(2);
        int was = row[i];
        row[i] = v;
        return tell(was);
    }

    int at(int r, int i) {
        if (r < 0 || r > 5) return BAD;
        int[] row = rows.get(r);
        if (row == null) return found(1);
        if (i < 0 || i >= row.length) return found(2);
        return tell(row[i]);
    }

    int tear(int r) {
        if (r < 0 || r > 5) return BAD;
        return rows.remove(r) == null ? found(1) : 1;
    }

    int copy(int r, int i, int to, int j, int n) {
        if (r < 0 || r > 5 || to < 0 || to > 5) return BAD;
        if (n < 0) return found(5);
        int[] from = rows.get(r);
        int[] into = rows.get(to);
        if (from == null || into == null) return found(1);
        if (i < 0 || j < 0 || (long) i + n > from.length || (long) j + n > into.length) return found(2);
        int[] taken = Arrays.copyOfRange(from, i, i + n);
        for (int k = 0; k < n; k++) into[j + k] = taken[k];
        return 1;
    }

    int mean(int r) {
        if (r < 0 || r > 5) return BAD;
        int[] row = rows.get(r);
        if (row == null) return found(1);
        if (row.length == 0) return found(4);
        BigInteger sum = BigInteger.ZERO;
        for (int v : row) sum = sum.add(BigInteger.valueOf(v));
        return tell(sum.divide(BigInteger.valueOf(row.length)).intValueExact());
    }

    int text(int t, int n) {
        if (t < 0 || t > 3 || n > 60) return BAD;
        if (n < 0) return found(5);
        byte[] text = new byte[n];
        Arrays.fill(text, (byte) ' ');
        texts.put(t, text);
        return n;
    }

    int put(int t, int i, int v) {
        if (t < 0 || t > 3) return BAD;
        byte[] text = texts.get(t);
        if (text == null) return found(1);
        if (i < 0 || i >= text.length) return found(2);
        int was = text[i];
        text[i] = (byte) v;
        return was + 1000;
    }

    private static String signs(byte[] text) {
        StringBuilder all = new StringBuilder();
        for (byte b : text) all.append((char) (b & 255));
        return all.toString();
    }

    // the first place behind which nothing that could follow makes it a town
    private static int faultOf(String all) {
        if (TOWN.matcher(all).matches()) return NONE;
        for (int n = 1; n <= all.length(); n++) {
            Matcher ahead = TOWN.matcher(all.substring(0, n));
            if (!ahead.matches() && !ahead.hitEnd()) return n - 1;
        }
        return all.length();
    }

    int fault(int t) {
        if (t < 0 || t > 3) return BAD;
        byte[] text = texts.get(t);
        return text == null ? found(1) : faultOf(signs(text));
    }

    int town(int t) {
        if (t < 0 || t > 3) return BAD;
        byte[] text = texts.get(t);
        if (text == null) return found(1);
        Matcher told = TOWN.matcher(signs(text));
        if (!told.matches()) return STATE;
        String all = told.group(3).replace(" ", "");
        List<House> street = new ArrayList<>();
        for (int k = 0; k < all.length(); k += 5) {
            int kind = LETTERS.indexOf(all.charAt(k));
            int date = Integer.parseInt(all.substring(k + 1, k + 3));
            int want = Integer.parseInt(all.substring(k + 3, k + 5));
            street.add(new House(kind, date, want, 0, NONE));
        }
        past = new ArrayList<>(List.of(new State(street, told.group(1).equals("1"), 0, 0, 0, 0)));
        quarrel = Integer.parseInt(told.group(2));
        kept.clear();
        return street.size();
    }

    private int houseTells(int i, int what) {
        House h = at(i);
        int[] all = {h.kind(), h.date(), h.want(), h.tapped(), h.year(), left(h)};
        return all[what];
    }

    int house(int i, int what) {
        if (none(i) || what < 0 || what > 5) return BAD;
        return tell(houseTells(i, what));
    }

    private static boolean is(int kind, int of) {
        return kind == of || of == 1 && kind == 4 || of == 2 && kind == 5;
    }

    int mark(int i, int kind) {
        if (none(i) || kind < 1 || kind > 5) return BAD;
        House h = at(i);
        if (!is(h.kind(), kind)) return found(3);
        int taps = tapsOf(h.kind(), h.date(), now().frost());
        if (kind == 1) return taps == NONE ? NONE : taps - tapsOf(0, h.date(), now().frost());
        if (kind == 2) return h.kind() == 5 ? 4 : 1;
        if (kind == 3) return (int) now().houses().stream().filter(x -> x != h && x.year() != NONE).count();
        if (kind == 4) return taps;
        return (int) now().houses().stream().filter(x -> x.date() < h.date()).count();
    }

    // ---- 2

    private static int tapsOf(int kind, int date, boolean frost) {
        if (kind == 3) return NONE;
        if (frost && date / 10 == 4 && kind != 5) return NONE;
        int taps = date < 50 ? 2 : 1;
        return kind == 4 ? taps + taps + 1 : kind == 1 ? taps + taps : taps;
    }

    // found by trying: tapped in mind until it is awake
    private int left(House h) {
        int taps = tapsOf(h.kind(), h.date(), now().frost());
        if (h.year() != NONE) return 0;
        if (taps == NONE) return NONE;
        int more = 0;
        int tapped = h.tapped();
        do {
            more++;
            tapped++;
        } while (tapped < taps);
        return more;
    }

    private static List<House> with(List<House> all, int i, House h) {
        List<House> next = new ArrayList<>(all);
        next.set(i, h);
        return next;
    }

    private static State walked(State s, int to) {
        return new State(s.houses(), s.frost(), s.minute() + Math.abs(to - s.place()), s.night(), to, s.purse());
    }

    private static State tapped(State s) {
        House h = s.houses().get(s.place());
        int taps = tapsOf(h.kind(), h.date(), s.frost());
        boolean wakes = h.year() == NONE && taps != NONE && h.tapped() + 1 >= taps;
        House next = new House(h.kind(), h.date(), h.want(), h.tapped() + 1, wakes ? h.date() : h.year());
        int[] fees = {1, 1, 2, 0, 1, 5};
        int purse = Math.min(9999, s.purse() + (wakes ? fees[h.kind()] : 0));
        return new State(with(s.houses(), s.place(), next), s.frost(), s.minute() + 1, s.night(), s.place(), purse);
    }

    private static State changed(State s, int i, int date) {
        House h = s.houses().get(i);
        House next = new House(h.kind(), date, h.want(), 0, h.year());
        return new State(with(s.houses(), i, next), s.frost(), s.minute(), s.night(), s.place(), s.purse());
    }

    private static State frozen(State s, boolean on) {
        return new State(s.houses(), on, s.minute(), s.night(), s.place(), s.purse());
    }

    private static State night(State s) {
        List<House> street = new ArrayList<>();
        for (House h : s.houses()) street.add(new House(h.kind(), h.date(), h.want(), 0, NONE));
        return new State(street, s.frost(), 0, s.night() + 1, 0, s.purse());
    }

    private int awake() {
        int set = 0;
        for (int i = 0; i < houses(); i++) if (at(i).year() != NONE) set |= 1 << i;
        return set;
    }

    int walk(int to) {
        if (none(to)) return BAD;
        if (now().place() == to) return STATE;
        if (deeds() == 40) return FULL;
        past.add(walked(now(), to));
        return now().minute();
    }

    int tap() {
        if (houses() == 0) return STATE;
        if (deeds() == 40) return FULL;
        past.add(tapped(now()));
        return at(now().place()).year() != NONE ? 1 : 0;
    }

    int slate(int i, int date) {
        if (none(i) || date < 0 || date > 99) return BAD;
        int was = at(i).date();
        if (was == date) return STATE;
        if (deeds() == 40) return FULL;
        past.add(changed(now(), i, date));
        return was;
    }

    int frost(int on) {
        if (on != 0 && on != 1) return BAD;
        if (houses() == 0 || now().frost() == (on == 1)) return STATE;
        if (deeds() == 40) return FULL;
        past.add(frozen(now(), on == 1));
        return on;
    }

    int night() {
        if (houses() == 0) return STATE;
        if (deeds() == 40) return FULL;
        int awake = Integer.bitCount(awake());
        past.add(night(now()));
        return awake;
    }

    int undo(int n) {
        if (n < 0 || n > deeds()) return BAD;
        int gone = deeds() - n;
        past = new ArrayList<>(past.subList(0, n + 1));
        return gone;
    }

    int keep(int k) {
        if (k < 0 || k > 2) return BAD;
        if (houses() == 0) return STATE;
        kept.put(k, List.copyOf(past));
        return deeds();
    }

    int on(int k) {
        if (k < 0 || k > 2) return BAD;
        if (!kept.containsKey(k)) return found(1);
        past = new ArrayList<>(kept.get(k));
        return deeds();
    }

    // ---- 3

    int takes(int i, int date) {
        if (none(i) || date < 0 || date > 99) return BAD;
        return tapsOf(at(i).kind(), date, now().frost());
    }

    int pays(int i) {
        if (none(i)) return BAD;
        return List.of(1, 1, 2, 0, 1, 5).get(at(i).kind());
    }

    int who(int date, int n) {
        if (date < 0 || date > 99 || n < 1 || n > 9) return BAD;
        int set = 0;
        for (int i = 0; i < houses(); i++) if (takes(i, date) == n) set += 1 << i;
        return set;
    }

    int quarrels() {
        if (houses() == 0) return STATE;
        int many = 0;
        for (int i = 1; i < houses(); i++) {
            int a = at(i - 1).year();
            int b = at(i).year();
            if (a != NONE && b != NONE && Math.max(a, b) - Math.min(a, b) > quarrel) many++;
        }
        return many;
    }

    // ---- 4

    /** All orders of the houses of a set, the first ones first. */
    static List<List<Integer>> orders(int set) {
        List<List<Integer>> all = new ArrayList<>();
        if (set == 0) all.add(List.of());
        for (int i = 0; i < 6; i++) {
            if ((set >> i & 1) == 0) continue;
            for (List<Integer> rest : orders(set & ~(1 << i))) {
                List<Integer> order = new ArrayList<>(List.of(i));
                order.addAll(rest);
                all.add(order);
            }
        }
        return all;
    }

    // the minutes that the round takes, tap by tap; NONE if one is too late
    private int round(List<Integer> order, boolean late) {
        State s = now();
        for (int i : order) {
            s = walked(s, i);
            for (int k = 0; k < 9 && s.houses().get(i).year() == NONE; k++) s = tapped(s);
            if (s.minute() > s.houses().get(i).want() && !late) return NONE;
        }
        return s.minute() - now().minute();
    }

    private boolean cannot(int set) {
        for (int i = 0; i < houses(); i++) if ((set >> i & 1) != 0 && left(at(i)) <= 0) return true;
        return false;
    }

    int soonest(int set) {
        if (set < 0 || set >= 1 << houses()) return BAD;
        if (cannot(set)) return STATE;
        int best = Integer.MAX_VALUE;
        for (List<Integer> order : orders(set)) best = Math.min(best, round(order, true));
        return best;
    }

    int intime(int set, int r) {
        if (set < 0 || set >= 1 << houses() || r < 0 || r > 5) return BAD;
        if (cannot(set)) return STATE;
        int best = NONE;
        List<Integer> first = null;
        for (List<Integer> order : orders(set)) {
            int minutes = round(order, false);
            if (minutes != NONE && (first == null || minutes < best)) {
                best = minutes;
                first = order;
            }
        }
        if (first != null) rows.put(r, first.stream().mapToInt(x -> x).toArray());
        return best;
    }

    int many() {
        if (houses() == 0) return STATE;
        int best = 0;
        for (int set = 1; set < 1 << houses(); set++) {
            if (Integer.bitCount(set) <= Integer.bitCount(best) || cannot(set)) continue;
            for (List<Integer> order : orders(set)) {
                if (round(order, false) != NONE) {
                    best = set;
                    break;
                }
            }
        }
        asked = best;
        return Integer.bitCount(best);
    }

    /** The fewest minutes in which a set is awake, minute by minute: she may leave a house half tapped. */
    int minuteByMinute(int set, boolean late) {
        Set<State> seen = new HashSet<>(List.of(now()));
        for (int minutes = 0; minutes < 300 && !seen.isEmpty(); minutes++) {
            Set<State> next = new HashSet<>();
            for (State s : seen) {
                boolean all = true;
                for (int i = 0; i < houses(); i++) all &= (set >> i & 1) == 0 || s.houses().get(i).year() != NONE;
                if (all) return minutes;
                for (int to = s.place() - 1; to <= s.place() + 1; to += 2) if (!none(to)) next.add(walked(s, to));
                int here = s.place();
                if ((set >> here & 1) == 0 || s.houses().get(here).year() != NONE) continue;
                State then = tapped(s);
                boolean wakes = then.houses().get(here).year() != NONE;
                if (late || !wakes || then.minute() <= s.houses().get(here).want()) next.add(then);
            }
            seen = new HashSet<>();
            for (State s : next) if (late || s.minute() < 100) seen.add(s);
        }
        return NONE;
    }

    // ---- 5

    int dates(int r) {
        if (r < 0 || r > 5) return BAD;
        if (houses() == 0) return STATE;
        int best = Integer.MAX_VALUE;
        for (List<Integer> order : orders((1 << houses()) - 1)) {
            int far = 0;
            for (int k = 1; k < order.size(); k++) far += Math.abs(at(order.get(k)).date() - at(order.get(k - 1)).date());
            if (far < best) {
                best = far;
                rows.put(r, order.stream().mapToInt(x -> x).toArray());
            }
        }
        return best;
    }

    // ---- 6

    private int pairs(int r) {
        if (r < 0 || r > 5) return BAD;
        int[] row = rows.get(r);
        if (row == null) return found(1);
        if (row.length % 2 == 1 || row.length > 16) return found(5);
        for (int k = 0; k < row.length; k += 2) {
            if (row[k] < 0 || row[k] > 99 || row[k + 1] < 0 || row[k + 1] > 9) return found(3);
        }
        return 1;
    }

    private boolean fits(int kind, int[] row) {
        for (int k = 0; k < row.length; k += 2) {
            int taps = tapsOf(kind, row[k], now().frost());
            if (row[k + 1] != (taps == NONE ? 0 : taps)) return false;
        }
        return true;
    }

    int whose(int r) {
        int refused = pairs(r);
        if (refused != 1) return refused;
        int set = 0;
        for (int i = 0; i < houses(); i++) if (fits(at(i).kind(), rows.get(r))) set += 1 << i;
        return set;
    }

    int kinds(int r) {
        int refused = pairs(r);
        if (refused != 1) return refused;
        int set = 0;
        for (int kind = 0; kind < 6; kind++) if (fits(kind, rows.get(r))) set += 1 << kind;
        return set;
    }

    int test(int r) {
        int set = kinds(r);
        if (set < 0) return set;
        if (set == 0) return NONE;
        int best = NONE;
        int least = 7;
        for (int date = 99; date >= 0; date--) {
            Map<Integer, Integer> parts = new HashMap<>();
            for (int kind = 0; kind < 6; kind++) {
                if ((set >> kind & 1) != 0) parts.merge(tapsOf(kind, date, now().frost()), 1, Integer::sum);
            }
            int most = parts.values().stream().max(Integer::compare).orElseThrow();
            if (most <= least) {
                least = most;
                best = date;
            }
        }
        asked = least;
        return best;
    }

    // ---- 7

    private List<Integer> setsThatPay(int v) {
        List<Integer> all = new ArrayList<>();
        for (int set = 0; set < 1 << houses(); set++) {
            int sum = 0;
            for (int i = 0; i < houses(); i++) sum += (set >> i & 1) * pays(i);
            if (sum == v) all.add(set);
        }
        return all;
    }

    int sets(int v) {
        if (v < 0 || v > 99) return BAD;
        if (houses() == 0) return STATE;
        List<Integer> all = setsThatPay(v);
        upper = BigInteger.valueOf(all.size());
        lower = BigInteger.ONE;
        return tell(all.isEmpty() ? NONE : all.get(0));
    }

    int sure(int v) {
        if (v < 0 || v > 99) return BAD;
        if (houses() == 0) return STATE;
        List<Integer> all = setsThatPay(v);
        if (all.isEmpty()) return found(4);
        int each = 0;
        int never = 0;
        for (int i = 0; i < houses(); i++) {
            int bit = 1 << i;
            if (all.stream().allMatch(s -> (s & bit) != 0)) each += bit;
            if (all.stream().noneMatch(s -> (s & bit) != 0)) never += bit;
        }
        asked = never;
        return each;
    }

    // ---- 8

    // turn by turn, each trying all that it may do
    private int turns(int[] left, int rest) {
        if (rest == 0) {
            int ahead = 0;
            for (int i = 0; i < left.length; i++) if (left[i] == 0) ahead += i % 2 == 0 ? 1 : -1;
            return ahead;
        }
        int who = rest % 2 == 0 ? 0 : 1;
        int best = turns(left, rest - 1);
        for (int i = who; i < left.length; i += 2) {
            if (left[i] <= 0) continue;
            left[i]--;
            int v = turns(left, rest - 1);
            left[i]++;
            best = who == 0 ? Math.max(best, v) : Math.min(best, v);
        }
        return best;
    }

    int duel(int n) {
        if (n < 0 || n > 3) return BAD;
        if (houses() == 0) return STATE;
        int[] left = now().houses().stream().mapToInt(this::left).toArray();
        return tell(turns(left, 2 * n));
    }

    // ---- 9

    private void ratio(BigInteger up, BigInteger low) {
        BigInteger shared = up.gcd(low);
        upper = up.divide(shared);
        lower = low.divide(shared);
    }

    private static BigInteger awakeWays(int left, int n, int p) {
        if (n == 0) return left == 0 ? BigInteger.ONE : BigInteger.ZERO;
        BigInteger heard = awakeWays(left > 0 ? left - 1 : left, n - 1, p).multiply(BigInteger.valueOf(p));
        return heard.add(awakeWays(left, n - 1, p).multiply(BigInteger.valueOf(12 - p)));
    }

    private static BigInteger leftSum(int left, int n, int p) {
        if (n == 0) return BigInteger.valueOf(left);
        BigInteger heard = leftSum(left > 0 ? left - 1 : left, n - 1, p).multiply(BigInteger.valueOf(p));
        return heard.add(leftSum(left, n - 1, p).multiply(BigInteger.valueOf(12 - p)));
    }

    int odds(int i, int n, int p) {
        if (none(i) || n < 0 || n > 8 || p < 0 || p > 12) return BAD;
        ratio(awakeWays(left(at(i)), n, p), BigInteger.valueOf(12).pow(n));
        return 1;
    }

    int mid(int i, int n, int p) {
        if (none(i) || n < 0 || n > 8 || p < 0 || p > 12) return BAD;
        if (left(at(i)) == NONE) return found(4);
        ratio(leftSum(left(at(i)), n, p), BigInteger.valueOf(12).pow(n));
        return 1;
    }

    int lots(int n, int seed) {
        if (n < 1 || n > 20 || seed < 1 || seed > 2147483646) return BAD;
        if (houses() == 0) return STATE;
        if (deeds() + n > 40) return FULL;
        BigInteger lot = BigInteger.valueOf(seed);
        for (int k = 0; k < n; k++) {
            lot = lot.multiply(BigInteger.valueOf(48271)).mod(BigInteger.valueOf(2147483647));
            int x = lot.intValueExact();
            int door = x % houses();
            State s = now();
            switch ((x >> 3) & 7) {
                case 0, 1 -> past.add(walked(s, door));
                case 2, 3, 4, 5 -> past.add(tapped(s));
                case 6 -> past.add(changed(s, door, (x >> 6) % 100));
                default -> past.add(frozen(s, !s.frost()));
            }
        }
        return Integer.bitCount(awake());
    }

    // ---- 10

    int count(int what) {
        if (what < 0 || what > 13) return BAD;
        State s = now();
        int heavy = 0;
        int rich = 0;
        for (House h : s.houses()) {
            if (is(h.kind(), 1)) heavy++;
            if (is(h.kind(), 2)) rich++;
        }
        int[] all = {houses(), s.minute(), s.night(), deeds(), s.place(), s.frost() ? 1 : 0, awake(), s.purse(),
            heavy, rich, rows.size(), texts.size(), kept.size(), quarrel};
        return all[what];
    }

    int findings(int f) {
        return f < 1 || f > 5 ? BAD : findings[f];
    }

    long digest() {
        List<Integer> all = new ArrayList<>();
        for (int what = 0; what < 14; what++) all.add(count(what));
        for (int i = 0; i < houses(); i++) for (int what = 0; what < 6; what++) all.add(houseTells(i, what));
        for (int k = 0; k < 3; k++) all.add(kept.containsKey(k) ? kept.get(k).size() - 1 : -1);
        for (int r = 0; r < 6; r++) {
            int[] row = rows.get(r);
            all.add(row == null ? -1 : row.length);
            if (row != null) for (int v : row) all.add(v);
        }
        for (int t = 0; t < 4; t++) {
            byte[] text = texts.get(t);
            all.add(text == null ? -1 : text.length);
            if (text != null) for (byte v : text) all.add((int) v);
        }
        long h = 17;
        for (int v : all) h = 31 * h + v;
        return h;
    }
}
