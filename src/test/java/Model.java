import java.math.BigInteger;
import java.util.ArrayDeque;
import java.util.ArrayList;
import java.util.Arrays;
import java.util.Deque;
import java.util.HashMap;
import java.util.List;
import java.util.Map;
import java.util.regex.Matcher;
import java.util.regex.Pattern;

/**
 * The document once more, written apart from the program and in another way:
 * by copies, lists and trying all there is. ModelTest sets the two side by side.
 */
final class Model {
    static final class Fam {
        int kind, mouths, memory, job;

        Fam copy() {
            Fam f = new Fam();
            f.kind = kind;
            f.mouths = mouths;
            f.memory = memory;
            f.job = job;
            return f;
        }
    }

    static final class World {
        int span = 10, year, wanted, colds, rate;
        int[] stores = new int[4];
        List<Fam> fams = new ArrayList<>();
        List<int[]> debts = new ArrayList<>(), reports = new ArrayList<>(), words = new ArrayList<>();
        Deque<World> past = new ArrayDeque<>();

        World copy() {
            World w = new World();
            w.span = span;
            w.year = year;
            w.wanted = wanted;
            w.colds = colds;
            w.rate = rate;
            w.stores = stores.clone();
            for (Fam f : fams) w.fams.add(f.copy());
            w.debts.addAll(debts);
            w.reports.addAll(reports);
            w.words.addAll(words);
            w.past.addAll(past);
            return w;
        }

        boolean noon(int y) {
            return (y + 1) % span == 0;
        }

        int eats(Fam f, boolean noon) {
            if (f.kind == 1) return noon ? f.mouths : f.mouths - f.mouths / 2;
            return f.kind == 3 ? f.mouths + 1 : f.mouths;
        }

        void add(int which, int n) {
            stores[which] = Math.min(9999, stores[which] + n);
        }

        int fields() {
            int know = fams.stream().filter(f -> f.memory > 0).mapToInt(f -> f.mouths).sum();
            return Math.min(know, Math.min(stores[1], stores[2] * 3));
        }

        int eat(boolean noon) {
            int need = 0;
            for (Fam f : fams) need += eats(f, noon);
            int got = Math.min(need, stores[0]);
            stores[0] -= got;
            wanted += need - got;
            return need - got;
        }

        int go(boolean bad) {
            int lack = noon(year) ? goNoon(bad) : goDusk();
            year++;
            return lack;
        }

        private int goNoon(boolean bad) {
            int fields = fields();
            if (bad) fields /= 2;
            add(0, 5 * fields);
            add(1, fields);
            stores[2] -= fields / 3;
            add(3, 10);
            int lack = eat(true);
            for (Fam f : fams) f.memory = 9;
            return lack;
        }

        private int goDusk() {
            for (Fam f : fams) {
                if (f.kind == 1 && year % 2 == 1) continue;
                if (f.job == 1) {
                    for (Fam g : fams) if (g != f && g.memory < f.memory - 1) g.memory = f.memory - 1;
                } else if (f.job == 2) {
                    add(2, f.kind == 3 ? 3 : 1);
                } else if (f.job == 3) {
                    add(1, f.kind == 2 ? 4 : f.kind == 4 ? 2 : 1);
                } else if (f.job == 4) {
                    add(3, 3);
                }
            }
            int lack = eat(false);
            for (Fam f : fams) {
                if (stores[3] > 0) {
                    stores[3]--;
                    continue;
                }
                colds++;
                if (f.mouths > 1) f.mouths--;
            }
            stores[0] -= stores[0] / 10;
            stores[1] -= stores[1] / 8;
            if (year % 5 == 4 && stores[2] > 0) stores[2]--;
            for (Fam f : fams) if (f.kind != 4 && f.memory > 0) f.memory--;
            return lack;
        }
    }

    private World w = new World();
    private final World[] images = new World[2];
    private final StringBuilder text = new StringBuilder();
    private final int[] refused = new int[3];
    private BigInteger above = BigInteger.ZERO, below = BigInteger.ONE;

    private int bad(int answer) {
        refused[0]++;
        return answer;
    }

    private int no() {
        refused[1]++;
        return -3;
    }

    private int full() {
        refused[2]++;
        return -4;
    }

    private boolean fam(int f) {
        return f >= 0 && f < w.fams.size();
    }

    int year(int y) {
        if (y < 2 || y > 70) return bad(-2);
        int was = w.span;
        w = new World();
        w.span = y;
        return was;
    }

    int store(int which, int n) {
        if (which < 0 || which > 3 || n < 0 || n > 9999) return bad(-2);
        int was = w.stores[which];
        w.stores[which] = n;
        return was;
    }

    int family(int kind, int mouths, int memory) {
        if (kind < 0 || kind > 4 || mouths < 1 || mouths > 20 || memory < 0 || memory > 9) return bad(-2);
        if (w.fams.size() == 6) return full();
        settle(w, kind, mouths, memory);
        return w.fams.size() - 1;
    }

    private static void settle(World world, int kind, int mouths, int memory) {
        Fam f = new Fam();
        f.kind = kind;
        f.mouths = mouths;
        f.memory = memory;
        world.fams.add(f);
    }

    int job(int family, int job) {
        if (!fam(family) || job < 0 || job > 4) return bad(-2);
        int was = w.fams.get(family).job;
        w.fams.get(family).job = job;
        return was;
    }

    int type(int c) {
        if (c < 0 || c > 127) return bad(-2);
        if (text.length() == 150) return full();
        text.append((char) c);
        return text.length();
    }

    int clear() {
        int was = text.length();
        text.setLength(0);
        return was;
    }

    private static final Pattern TOKEN = Pattern.compile("[a-z]+|[0-9]+|[^ ]", Pattern.DOTALL);

    int read() {
        List<String> tokens = new ArrayList<>();
        List<Integer> places = new ArrayList<>();
        Matcher m = TOKEN.matcher(text);
        while (m.find()) {
            tokens.add(m.group());
            places.add(m.start());
        }
        places.add(text.length());
        World made = new World();
        int p = 0, items = 0;
        while (p < tokens.size() || items == 0) {
            int used = item(made, tokens, p, items == 0);
            if (used < 0) return -10 - places.get(p - used - 1);
            p += used;
            items++;
        }
        w = made;
        return items;
    }

    /** How many tokens the item has; or less 1 and the place of the one at fault among them. */
    private static int item(World made, List<String> tokens, int p, boolean first) {
        if (p == tokens.size()) return -1;
        String word = tokens.get(p);
        boolean known = List.of("year", "store", "family", "job", "debt").contains(word);
        if (!known || word.equals("year") != first) return -1;
        if (word.equals("family") && made.fams.size() == 6) return -1;
        if (word.equals("debt") && made.debts.size() == 8) return -1;
        int there = made.fams.size() - 1;
        int[][] ranges = switch (word) {
            case "year" -> new int[][] {{2, 70}};
            case "store" -> new int[][] {{0, 3}, {0, 9999}};
            case "family" -> new int[][] {{0, 4}, {1, 20}, {0, 9}};
            case "job" -> new int[][] {{0, there}, {0, 4}};
            default -> new int[][] {{0, there}, {0, there}, {1, 999}};
        };
        int[] n = new int[3];
        for (int i = 0; i < ranges.length; i++) {
            if (p + 1 + i == tokens.size()) return -2 - i;
            String token = tokens.get(p + 1 + i);
            if (!token.matches("[0-9]{1,4}")) return -2 - i;
            n[i] = Integer.parseInt(token);
            if (n[i] < ranges[i][0] || n[i] > ranges[i][1]) return -2 - i;
            if (word.equals("debt") && i == 1 && n[0] == n[1]) return -2 - i;
        }
        int end = p + 1 + ranges.length;
        if (end == tokens.size() || !tokens.get(end).equals(";")) return -2 - ranges.length;
        switch (word) {
            case "year" -> made.span = n[0];
            case "store" -> made.stores[n[0]] = n[1];
            case "family" -> settle(made, n[0], n[1], n[2]);
            case "job" -> made.fams.get(n[0]).job = n[1];
            default -> made.debts.add(n);
        }
        return 2 + ranges.length;
    }

    int pass(int n) {
        if (n < 1 || n > 20) return bad(-2);
        int lack = 0;
        for (int i = 0; i < n; i++) {
            World before = w.copy();
            before.past.clear();
            w.past.addLast(before);
            if (w.past.size() > 6) w.past.removeFirst();
            lack += w.go(false);
        }
        return lack;
    }

    int undo() {
        if (w.past.isEmpty()) return no();
        World before = w.past.removeLast();
        w.year = before.year;
        w.stores = before.stores.clone();
        w.wanted = before.wanted;
        w.colds = before.colds;
        for (int f = 0; f < before.fams.size(); f++) {
            w.fams.get(f).mouths = before.fams.get(f).mouths;
            w.fams.get(f).memory = before.fams.get(f).memory;
        }
        return 1;
    }

    int about(int family, int what) {
        if (!fam(family) || what < 0 || what > 3) return bad(-2);
        Fam f = w.fams.get(family);
        return new int[] {f.kind, f.mouths, f.memory, f.job}[what];
    }

    int eats(int family, int year) {
        if (!fam(family) || year < 0 || year > 9999) return bad(-2);
        return w.eats(w.fams.get(family), w.noon(year));
    }

    int fields() {
        return w.fields();
    }

    int plan(int m, int i) {
        if (m < 0 || m > 5 || i < -1) return bad(-10);
        int rows = 1, most = -1, row = 0;
        for (int y = 0; y < m; y++) rows *= 5;
        for (int r = 0; r < rows; r++) {
            World t = w.copy();
            int lack = 0;
            for (int y = 0, rest = rows; y < m; y++) {
                rest /= 5;
                for (Fam f : t.fams) f.job = r / rest % 5;
                lack += t.go(false);
            }
            if (lack == 0 && t.stores[0] > most) {
                most = t.stores[0];
                row = r;
            }
        }
        if (most < 0 || i < 0) return most;
        if (i >= m) return -5;
        for (int y = m - 1; y > i; y--) row /= 5;
        return row % 5;
    }

    private int want(World now, int n) {
        World t = now.copy();
        for (int i = 0; i < n; i++) if (t.go(false) > 0) return i;
        return -1;
    }

    int want(int n) {
        return n < 0 || n > 200 ? bad(-2) : want(w, n);
    }

    int held(int n) {
        if (n < 0 || n > 200) return bad(-10);
        World t = w.copy();
        for (int g = 0; g <= 999; g++) {
            t.stores[0] = g;
            if (want(t, n) < 0) return g;
        }
        return -1;
    }

    int chance(int n, int p) {
        if (n < 0 || n > 60 || p < 0 || p > 10) return bad(-2);
        int noons = 0;
        for (int i = 0; i < n; i++) if (w.noon(w.year + i)) noons++;
        if (noons > 8) return no();
        BigInteger good = BigInteger.ZERO;
        for (int bads = 0; bads < 1 << noons; bads++) {
            World t = w.copy();
            int seen = 0, lack = 0;
            BigInteger ways = BigInteger.ONE;
            for (int i = 0; i < n; i++) {
                boolean bad = false;
                if (t.noon(t.year)) {
                    bad = (bads >> seen++ & 1) != 0;
                    ways = ways.multiply(BigInteger.valueOf(bad ? p : 10 - p));
                }
                lack += t.go(bad);
            }
            if (lack == 0) good = good.add(ways);
        }
        BigInteger all = BigInteger.TEN.pow(noons), divisor = good.gcd(all);
        above = good.divide(divisor);
        below = all.divide(divisor);
        return 1;
    }

    int teachers(int n) {
        if (n < 0 || n > 60) return bad(-2);
        int size = w.fams.size();
        for (int many = 0; many <= size; many++) {
            for (int set = 0; set < 1 << size; set++) {
                if (Integer.bitCount(set) == many && teach(set, n)) return set;
            }
        }
        return -1;
    }

    private boolean teach(int set, int n) {
        World t = w.copy();
        for (int f = 0; f < t.fams.size(); f++) {
            boolean in = (set >> f & 1) == 1;
            Fam fam = t.fams.get(f);
            fam.job = in ? 1 : fam.job == 1 ? 0 : fam.job;
        }
        for (int i = 0; i < n; i++) t.go(false);
        return t.fams.stream().allMatch(f -> f.memory > 0);
    }

    int debt(int from, int to, int n) {
        if (!fam(from) || !fam(to) || from == to || n < 1 || n > 999) return bad(-2);
        if (w.debts.size() == 8) return full();
        w.debts.add(new int[] {from, to, n});
        return w.debts.size() - 1;
    }

    int rate(int r) {
        if (r < 0 || r > 50) return bad(-2);
        int was = w.rate;
        w.rate = r;
        return was;
    }

    private int[] nets() {
        int away = 0;
        while (!w.noon(w.year + away)) away++;
        int[] nets = new int[w.fams.size()];
        for (int[] d : w.debts) {
            int due = d[2] * (100 + w.rate * away) / 100;
            nets[d[0]] -= due;
            nets[d[1]] += due;
        }
        return nets;
    }

    int net(int family) {
        return fam(family) ? nets()[family] : bad(-100000);
    }

    int cleared() {
        return settle(nets(), 0);
    }

    /** Each payment may be one that makes the first NET that is not 0 even. */
    private static int settle(int[] nets, int first) {
        int f = first;
        while (f < nets.length && nets[f] == 0) f++;
        if (f == nets.length) return 0;
        int fewest = 99;
        for (int g = f + 1; g < nets.length; g++) {
            if (Integer.signum(nets[f]) != -Integer.signum(nets[g])) continue;
            nets[g] += nets[f];
            fewest = Math.min(fewest, 1 + settle(nets, f + 1));
            nets[g] -= nets[f];
        }
        return fewest;
    }

    int report(int year, int family, int n) {
        if (year < 0 || year > 99 || !fam(family) || n < 0 || n > 9999) return bad(-2);
        if (w.reports.size() == 10) return full();
        w.reports.add(new int[] {year, family, n});
        return w.reports.size() - 1;
    }

    private boolean alikeWithout(int set) {
        Map<Integer, Integer> said = new HashMap<>();
        for (int[] r : w.reports) {
            if ((set >> r[1] & 1) == 1) continue;
            Integer other = said.put(r[0], r[2]);
            if (other != null && other != r[2]) return false;
        }
        return true;
    }

    int liars(int what) {
        if (what < 0 || what > 1) return bad(-2);
        int size = w.fams.size();
        int sure = (1 << size) - 1;
        int fewest = -1;
        for (int many = 0; many <= size; many++) {
            for (int set = 0; set < 1 << size; set++) {
                if (Integer.bitCount(set) != many || !alikeWithout(set)) continue;
                if (fewest < 0) fewest = set;
                sure &= set;
            }
        }
        return what == 0 ? fewest : sure;
    }

    int none(int what) {
        if (what < 0 || what > 2) return bad(-2);
        List<int[]> list = List.of(w.debts, w.reports, w.words).get(what);
        int was = list.size();
        list.clear();
        return was;
    }

    int lots(int seed, int k) {
        if (seed < 0 || seed > 999999 || k < 0 || k > w.fams.size()) return bad(-2);
        List<Integer> left = new ArrayList<>();
        for (int f = 0; f < w.fams.size(); f++) left.add(f);
        BigInteger x = BigInteger.valueOf(seed);
        int bits = 0;
        for (int i = 0; i < k; i++) {
            x = x.multiply(BigInteger.valueOf(1103515245)).add(BigInteger.valueOf(12345)).mod(BigInteger.TWO.pow(31));
            bits += 1 << left.remove(x.shiftRight(16).intValue() % left.size());
        }
        return bits;
    }

    private static boolean letters(int[] l) {
        return Arrays.stream(l).allMatch(c -> c >= 0 && c <= 25);
    }

    int word(int... l) {
        if (!letters(l)) return bad(-2);
        if (w.words.size() == 4) return full();
        w.words.add(l.clone());
        return w.words.size() - 1;
    }

    int toldOn(int word, int n, int place) {
        if (word < 0 || word >= w.words.size() || n < 0 || n > 30 || place < 0 || place > 5) return bad(-2);
        int[] l = w.words.get(word).clone();
        for (int t = 1; t <= n; t++) {
            if (t % 2 == 1) l[t % 6] = l[t % 6] == 25 ? 0 : l[t % 6] + 1;
            else l[t % 6] = l[t % 6] == 0 ? 25 : l[t % 6] - 1;
        }
        return l[place];
    }

    private static int apart(int[] v, int[] o) {
        int n = 0;
        for (int i = 0; i < 6; i++) n += v[i] == o[i] ? 0 : 1;
        return n;
    }

    int apart(int v, int o) {
        if (v < 0 || o < 0 || v >= w.words.size() || o >= w.words.size()) return bad(-2);
        return apart(w.words.get(v), w.words.get(o));
    }

    int bears() {
        int least = 7;
        for (int v = 0; v < w.words.size(); v++) {
            for (int o = 0; o < v; o++) least = Math.min(least, apart(v, o));
        }
        return least == 7 ? -1 : (least - 1) / 2;
    }

    int meant(int... l) {
        if (!letters(l)) return bad(-2);
        for (int slips = 0; slips <= 6; slips++) {
            for (int v = 0; v < w.words.size(); v++) if (apart(w.words.get(v), l) == slips) return v;
        }
        return -1;
    }

    int meet(int z, int r) {
        if (z < 2 || z > 70 || r < 0 || r >= z) return bad(-2);
        for (int t = 0; t < 5000; t++) if (w.noon(w.year + t) && t % z == r) return t;
        return -1;
    }

    long part(int what) {
        return what == 0 ? above.longValue() : what == 1 ? below.longValue() : bad(-2);
    }

    int image(int i) {
        if (i < 0 || i > 1) return bad(-2);
        images[i] = w.copy();
        return 1;
    }

    int from(int i) {
        if (i < 0 || i > 1) return bad(-2);
        if (images[i] == null) return no();
        w = images[i].copy();
        return 1;
    }

    int status(int what) {
        return what < 0 || what > 2 ? bad(-1) : refused[what];
    }

    int count(int what) {
        if (what < 0 || what > 13) return bad(-2);
        return new int[] {w.span, w.year, w.stores[0], w.stores[1], w.stores[2], w.stores[3], w.fams.size(),
            w.debts.size(), w.reports.size(), w.words.size(), w.wanted, w.colds, w.past.size(), text.length()}[what];
    }

    long digest() {
        List<Long> all = new ArrayList<>();
        for (int what = 0; what <= 13; what++) all.add((long) count(what));
        for (Fam f : w.fams) for (int v : new int[] {f.kind, f.mouths, f.memory, f.job}) all.add((long) v);
        all.add((long) w.rate);
        for (List<int[]> list : List.of(w.debts, w.reports, w.words)) {
            for (int[] row : list) for (int v : row) all.add((long) v);
        }
        all.add(above.longValue());
        all.add(below.longValue());
        long h = 827;
        for (long v : all) h = 31 * h + v;
        return h;
    }
}
