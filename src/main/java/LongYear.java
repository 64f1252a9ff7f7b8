/**
 * Farms on a lump of ice whose long year has one noon, the harvest.
 *
 * What each call does and answers is told by the document; words in capitals
 * are its terms. No call makes an object: all that a call needs is made by the
 * constructor and used again, since the calls of one run share one room.
 */
public final class LongYear {
    public static final int NONE = -1, BAD = -2, NO = -3, FULL = -4;

    private static final int REST = 0, TEACH = 1, MAKE = 2, TEND = 3, DIG = 4;
    private static final int LEAST_SPAN = 2, FIRST_SPAN = 10, MOST_SPAN = 70;
    private static final int MOST_STORE = 9999, MOST_MOUTHS = 20, MOST_MEMORY = 9;
    private static final int KINDS = 5, JOBS = 5, MOST_FAMILIES = 6;
    private static final int MOST_DEBTS = 8, MOST_OWED = 999, MOST_RATE = 50;
    private static final int MOST_REPORTS = 10, MOST_WORDS = 4, LETTERS = 6, ALPHABET = 26;
    private static final int MOST_TEXT = 150, MOST_UNDONE = 6, IMAGES = 2;
    private static final int MOST_PLAN = 5, MOST_NOONS = 8, MOST_HELD = 999;
    private static final int NOT_SO_MANY = -5, BAD_TRY = -10, BAD_NET = -100000;

    private final Lump lump, draft, firstImage, secondImage;
    private final Reader text = new Reader();
    private final Trials trials;
    private final int[] letters = new int[LETTERS];
    private int keptImages;
    private int bads, noes, fulls;
    private long above, below;

    public LongYear() {
        Farmers[] kinds = {new Farmers(), new Sleepers(), new Keepers(), new Makers(), new Singers()};
        lump = new Lump(kinds);
        draft = new Lump(kinds);
        firstImage = new Lump(kinds);
        secondImage = new Lump(kinds);
        trials = new Trials(kinds);
        below = 1;
    }

    // ---- a lump

    public int year(int y) {
        if (!within(y, LEAST_SPAN, MOST_SPAN)) return refuseBad(BAD);
        int was = lump.farm.span;
        lump.begin(y);
        return was;
    }

    public int store(int which, int n) {
        if (!within(which, 0, 3) || !within(n, 0, MOST_STORE)) return refuseBad(BAD);
        int was = lump.farm.stock(which);
        lump.farm.restock(which, n);
        return was;
    }

    public int family(int kind, int mouths, int memory) {
        if (!within(kind, 0, KINDS - 1) || !within(mouths, 1, MOST_MOUTHS)) return refuseBad(BAD);
        if (!within(memory, 0, MOST_MEMORY)) return refuseBad(BAD);
        if (lump.farm.size >= MOST_FAMILIES) return refuseFull();
        return lump.farm.settle(kind, mouths, memory);
    }

    public int job(int family, int job) {
        if (!isFamily(family) || !within(job, 0, JOBS - 1)) return refuseBad(BAD);
        Family one = lump.farm.member(family);
        int was = one.job;
        one.job = job;
        return was;
    }

    public int type(int c) {
        if (!within(c, 0, 127)) return refuseBad(BAD);
        if (text.size >= MOST_TEXT) return refuseFull();
        return text.add(c);
    }

    public int clear() {
        int was = text.size;
        text.size = 0;
        return was;
    }

    public int read() {
        int items = text.readInto(draft);
        // only a whole reading takes the place of what is there
        if (items >= 0) lump.setTo(draft);
        return items;
    }

    // ---- years

    public int pass(int n) {
        if (!within(n, 1, 20)) return refuseBad(BAD);
        int lack = 0;
        for (int i = 0; i < n; i++) lack += lump.goBy();
        return lack;
    }

    public int undo() {
        return lump.goBack() ? 1 : refuseNo();
    }

    public int about(int family, int what) {
        if (!isFamily(family)) return refuseBad(BAD);
        Family one = lump.farm.member(family);
        switch (what) {
            case 0: return one.kind;
            case 1: return one.mouths;
            case 2: return one.memory;
            case 3: return one.job;
            default: return refuseBad(BAD);
        }
    }

    public int eats(int family, int year) {
        if (!isFamily(family) || !within(year, 0, 9999)) return refuseBad(BAD);
        return lump.farm.member(family).needs(lump.farm.isNoon(year));
    }

    public int fields() {
        return lump.farm.sown();
    }

    // ---- what to do

    public int plan(int m, int i) {
        if (!within(m, 0, MOST_PLAN) || i < NONE) return refuseBad(BAD_TRY);
        int grain = trials.bestPlan(lump.farm, m);
        // only a PLAN that is there can have not so many JOBS
        if (grain == NONE || i == NONE) return grain;
        return i < m ? trials.plannedJob(i) : NOT_SO_MANY;
    }

    public int want(int n) {
        if (!within(n, 0, 200)) return refuseBad(BAD);
        return trials.firstWant(lump.farm, n, lump.farm.grain);
    }

    public int held(int n) {
        if (!within(n, 0, 200)) return refuseBad(BAD_TRY);
        return trials.leastHeld(lump.farm, n);
    }

    public int chance(int n, int p) {
        if (!within(n, 0, 60) || !within(p, 0, 10)) return refuseBad(BAD);
        int noons = lump.farm.noonsWithin(n);
        if (noons > MOST_NOONS) return refuseNo();
        long all = 1;
        for (int i = 0; i < noons; i++) all *= 10;
        takeFraction(trials.calmWays(lump.farm, n, p), all);
        return 1;
    }

    public int teachers(int n) {
        if (!within(n, 0, 60)) return refuseBad(BAD);
        return trials.fewestTeachers(lump.farm, n);
    }

    // ---- debts, counts

    public int debt(int from, int to, int n) {
        if (!isFamily(from) || !isFamily(to) || from == to) return refuseBad(BAD);
        if (!within(n, 1, MOST_OWED)) return refuseBad(BAD);
        if (lump.books.debts >= MOST_DEBTS) return refuseFull();
        return lump.books.addDebt(from, to, n);
    }

    public int rate(int r) {
        if (!within(r, 0, MOST_RATE)) return refuseBad(BAD);
        int was = lump.books.rate;
        lump.books.rate = r;
        return was;
    }

    public int net(int family) {
        if (!isFamily(family)) return refuseBad(BAD_NET);
        return lump.books.balance(family, lump.farm.yearsToNoon());
    }

    public int cleared() {
        return trials.fewestPayments(lump);
    }

    public int report(int year, int family, int n) {
        if (!within(year, 0, 99) || !isFamily(family)) return refuseBad(BAD);
        if (!within(n, 0, MOST_STORE)) return refuseBad(BAD);
        if (lump.books.reports >= MOST_REPORTS) return refuseFull();
        return lump.books.addReport(year, family, n);
    }

    public int liars(int what) {
        if (!within(what, 0, 1)) return refuseBad(BAD);
        int size = lump.farm.size;
        return what == 0 ? lump.books.fewestLiars(size) : lump.books.sureLiars(size);
    }

    public int none(int what) {
        int was = lump.books.howMany(what);
        if (was == NONE) return refuseBad(BAD);
        lump.books.strike(what);
        return was;
    }

    // ---- lots, songs, lumps

    public int lots(int seed, int k) {
        int size = lump.farm.size;
        if (!within(seed, 0, 999999) || !within(k, 0, size)) return refuseBad(BAD);
        long x = seed;
        int drawn = 0;
        for (int i = 0; i < k; i++) {
            x = (x * 1103515245L + 12345L) % 2147483648L;
            int place = leftOver((int) (x / 65536), size - i);
            drawn |= 1 << undrawn(drawn, place, size);
        }
        return drawn;
    }

    public int word(int a, int b, int c, int d, int e, int f) {
        if (!takeLetters(a, b, c, d, e, f)) return refuseBad(BAD);
        if (lump.books.words >= MOST_WORDS) return refuseFull();
        return lump.books.addWord(letters);
    }

    public int toldOn(int word, int n, int place) {
        if (!isWord(word) || !within(n, 0, 30) || !within(place, 0, LETTERS - 1)) return refuseBad(BAD);
        int letter = lump.books.letter(word, place);
        for (int teller = 1; teller <= n; teller++) {
            if (teller % LETTERS == place) letter += teller % 2 == 1 ? 1 : -1;
        }
        return Math.floorMod(letter, ALPHABET);
    }

    public int apart(int v, int w) {
        if (!isWord(v) || !isWord(w)) return refuseBad(BAD);
        return lump.books.wordsApart(v, w);
    }

    public int bears() {
        int nearest = lump.books.nearestPair();
        // two WORDS alike bear no slip: less than none is cut to none
        return nearest == NONE ? NONE : Math.max(0, nearest - 1) / 2;
    }

    public int meant(int a, int b, int c, int d, int e, int f) {
        if (!takeLetters(a, b, c, d, e, f)) return refuseBad(BAD);
        return lump.books.nearestWord(letters);
    }

    public int meet(int z, int r) {
        if (!within(z, LEAST_SPAN, MOST_SPAN) || !within(r, 0, z - 1)) return refuseBad(BAD);
        int span = lump.farm.span;
        int ours = lump.farm.yearsToNoon();
        // behind span times z YEARS both long years stand as they stand now
        for (int t = r; t < span * z; t += z) {
            if (leftOver(t, span) == ours) return t;
        }
        return NONE;
    }

    // ---- what there is

    public long part(int what) {
        if (!within(what, 0, 1)) return refuseBad(BAD);
        return what == 0 ? above : below;
    }

    public int image(int i) {
        if (!within(i, 0, IMAGES - 1)) return refuseBad(BAD);
        imageAt(i).setTo(lump);
        keptImages |= 1 << i;
        return 1;
    }

    public int from(int i) {
        if (!within(i, 0, IMAGES - 1)) return refuseBad(BAD);
        if ((keptImages >> i & 1) == 0) return refuseNo();
        lump.setTo(imageAt(i));
        return 1;
    }

    public int status(int what) {
        switch (what) {
            case 0: return bads;
            case 1: return noes;
            case 2: return fulls;
            default: return refuseBad(-1);
        }
    }

    public int count(int what) {
        return within(what, 0, 13) ? tally(what) : refuseBad(BAD);
    }

    public long digest() {
        long h = 827;
        for (int what = 0; what <= 13; what++) h = mix(h, tally(what));
        h = lump.farm.mixInto(h);
        h = lump.books.mixInto(h);
        return mix(mix(h, above), below);
    }

    // ---- what the calls share

    private int refuseBad(int answer) {
        bads++;
        return answer;
    }

    private int refuseNo() {
        noes++;
        return NO;
    }

    private int refuseFull() {
        fulls++;
        return FULL;
    }

    private boolean isFamily(int family) {
        return within(family, 0, lump.farm.size - 1);
    }

    private boolean isWord(int word) {
        return within(word, 0, lump.books.words - 1);
    }

    private Lump imageAt(int i) {
        return i == 0 ? firstImage : secondImage;
    }

    /** Keeps six letters in a row; false if one is none. */
    private boolean takeLetters(int a, int b, int c, int d, int e, int f) {
        put(letters, 0, a);
        put(letters, 1, b);
        put(letters, 2, c);
        put(letters, 3, d);
        put(letters, 4, e);
        put(letters, 5, f);
        for (int i = 0; i < LETTERS; i++) {
            if (!within(at(letters, i), 0, ALPHABET - 1)) return false;
        }
        return true;
    }

    private void takeFraction(long some, long all) {
        long divisor = commonDivisor(some, all);
        if (divisor <= 0) return;
        above = some / divisor;
        below = all / divisor;
    }

    private int tally(int what) {
        switch (what) {
            case 0: return lump.farm.span;
            case 1: return lump.farm.year;
            case 6: return lump.farm.size;
            case 7: return lump.books.debts;
            case 8: return lump.books.reports;
            case 9: return lump.books.words;
            case 10: return lump.farm.wanted;
            case 11: return lump.farm.colds;
            case 12: return lump.undoable;
            case 13: return text.size;
            default: return lump.farm.stock(what - 2);
        }
    }

    // ---- numbers and rows

    private static boolean within(int n, int least, int most) {
        return n >= least && n <= most;
    }

    private static int leftOver(int n, int by) {
        return by > 0 ? n % by : 0;
    }

    private static int stored(int n) {
        return Math.max(0, Math.min(MOST_STORE, n));
    }

    private static long mix(long h, long v) {
        return 31 * h + v;
    }

    /** Above 0 as long as one of the two is: Euclid's way, a hundred steps being more than any two need. */
    private static long commonDivisor(long a, long b) {
        long more = a, less = b;
        for (int step = 0; step < 100 && less != 0; step++) {
            long rest = more % less;
            more = less;
            less = rest;
        }
        return more;
    }

    /** The place among all of the one that is at a place among those not drawn yet. */
    private static int undrawn(int drawn, int place, int size) {
        int ahead = place;
        for (int f = 0; f < size; f++) {
            if ((drawn >> f & 1) != 0) continue;
            if (ahead == 0) return f;
            ahead--;
        }
        return 0;
    }

    /** Every look into a row of numbers goes through here, so that none can fall outside it. */
    private static int at(int[] row, int i) {
        return i >= 0 && i < row.length ? row[i] : 0;
    }

    private static void put(int[] row, int i, int n) {
        if (i >= 0 && i < row.length) row[i] = n;
    }

    private static void copy(int[] from, int[] to) {
        for (int i = 0; i < to.length && i < from.length; i++) to[i] = from[i];
    }

    private static Farm farmAt(Farm[] row, int i) {
        return i >= 0 && i < row.length ? row[i] : null;
    }

    // ---- the KINDS, each under the one that it extends

    private static class Farmers {
        int makes() {
            return 1;
        }

        int tends() {
            return 1;
        }

        int digs() {
            return 3;
        }

        int meal(int mouths, boolean noon) {
            return mouths;
        }

        int forgets() {
            return 1;
        }

        boolean rests(int year) {
            return false;
        }
    }

    private static final class Sleepers extends Farmers {
        int meal(int mouths, boolean noon) {
            int whole = super.meal(mouths, noon);
            return noon ? whole : (whole + 1) / 2;
        }

        boolean rests(int year) {
            return year % 2 != 0;
        }
    }

    private static class Keepers extends Farmers {
        int tends() {
            return super.tends() + 3;
        }
    }

    private static final class Makers extends Farmers {
        int makes() {
            return super.makes() + 2;
        }

        int meal(int mouths, boolean noon) {
            return super.meal(mouths, noon) + 1;
        }
    }

    private static final class Singers extends Keepers {
        int tends() {
            return super.tends() / 2;
        }

        int forgets() {
            return 0;
        }
    }

    private static final class Family {
        Farmers ways;
        int kind, mouths, memory, job;

        Family(Farmers first) {
            ways = first;
        }

        void setTo(Family other) {
            ways = other.ways;
            kind = other.kind;
            mouths = other.mouths;
            memory = other.memory;
            job = other.job;
        }

        int needs(boolean noon) {
            return ways.meal(mouths, noon);
        }
    }

    /** What the years change: the STORES, the FAMILIES, the YEAR. */
    private static final class Farm {
        private final Farmers[] kinds;
        private final Farmers farmers;
        private final Family[] families = new Family[MOST_FAMILIES];
        private final Family nobody;
        int span, year, grain, seed, tools, gas, size, wanted, colds;

        Farm(Farmers[] kinds) {
            this.kinds = kinds;
            farmers = new Farmers();
            nobody = new Family(farmers);
            for (int f = 0; f < families.length; f++) families[f] = new Family(farmers);
            span = FIRST_SPAN;
        }

        void begin(int y) {
            span = y;
            year = 0;
            grain = 0;
            seed = 0;
            tools = 0;
            gas = 0;
            size = 0;
            wanted = 0;
            colds = 0;
        }

        void setTo(Farm other) {
            span = other.span;
            size = other.size;
            for (int f = 0; f < size; f++) member(f).setTo(other.member(f));
            setTimeTo(other);
        }

        /** Back to an earlier YEAR; FAMILIES that were not there then stay as they are. */
        void goBackTo(Farm other) {
            for (int f = 0; f < other.size; f++) {
                Family one = member(f), before = other.member(f);
                one.mouths = before.mouths;
                one.memory = before.memory;
            }
            setTimeTo(other);
        }

        private void setTimeTo(Farm other) {
            year = other.year;
            grain = other.grain;
            seed = other.seed;
            tools = other.tools;
            gas = other.gas;
            wanted = other.wanted;
            colds = other.colds;
        }

        /** A FAMILY, never null: one that is not there is nobody. */
        Family member(int f) {
            Family one = f >= 0 && f < size && f < families.length ? families[f] : nobody;
            return one == null ? nobody : one;
        }

        int settle(int kind, int mouths, int memory) {
            int number = size;
            size++;
            Family one = member(number);
            Farmers ways = kind >= 0 && kind < kinds.length ? kinds[kind] : farmers;
            one.ways = ways == null ? farmers : ways;
            one.kind = kind;
            one.mouths = mouths;
            one.memory = memory;
            one.job = REST;
            return number;
        }

        int stock(int which) {
            switch (which) {
                case 0: return grain;
                case 1: return seed;
                case 2: return tools;
                default: return gas;
            }
        }

        void restock(int which, int n) {
            switch (which) {
                case 0: grain = n; break;
                case 1: seed = n; break;
                case 2: tools = n; break;
                default: gas = n; break;
            }
        }

        boolean isNoon(int number) {
            return leftOver(number, span) == span - 1;
        }

        /** None, if this YEAR is a NOON. */
        int yearsToNoon() {
            return span - 1 - leftOver(year, span);
        }

        int noonsWithin(int years) {
            int noons = 0;
            for (int i = 0; i < years; i++) {
                if (isNoon(year + i)) noons++;
            }
            return noons;
        }

        /** FIELDS, were it NOON now. */
        int sown() {
            int knowing = 0;
            for (int f = 0; f < size; f++) {
                Family one = member(f);
                if (one.memory > 0) knowing += one.mouths;
            }
            return Math.min(Math.min(seed, 3 * tools), knowing);
        }

        /** One YEAR goes by: the WANT in it. A bad NOON has half the FIELDS; a DUSK is never bad. */
        int goBy(boolean bad) {
            boolean noon = isNoon(year);
            if (noon) harvest(bad ? sown() / 2 : sown());
            else work();
            int lack = feed(noon);
            if (noon) {
                remember();
            } else {
                warm();
                lose();
                forget();
            }
            wanted += lack;
            year++;
            return lack;
        }

        private void harvest(int sown) {
            grain = stored(grain + 5 * sown);
            seed = stored(seed + sown);
            tools = stored(tools - sown / 3);
            gas = stored(gas + 10);
        }

        private void work() {
            for (int f = 0; f < size; f++) {
                Family one = member(f);
                if (one.ways.rests(year)) continue;
                switch (one.job) {
                    case TEACH: teach(f); break;
                    case MAKE: tools = stored(tools + one.ways.makes()); break;
                    case TEND: seed = stored(seed + one.ways.tends()); break;
                    case DIG: gas = stored(gas + one.ways.digs()); break;
                    default: break;
                }
            }
        }

        private void teach(int teacher) {
            int taught = member(teacher).memory - 1;
            for (int f = 0; f < size; f++) {
                Family one = member(f);
                if (f != teacher) one.memory = Math.max(one.memory, taught);
            }
        }

        private int feed(boolean noon) {
            int eaten = 0;
            for (int f = 0; f < size; f++) eaten += member(f).needs(noon);
            int lack = Math.max(0, eaten - grain);
            grain = stored(grain - eaten);
            return lack;
        }

        private void warm() {
            for (int f = 0; f < size; f++) {
                if (gas > 0) {
                    gas--;
                } else {
                    colds++;
                    Family one = member(f);
                    one.mouths = Math.max(1, one.mouths - 1);
                }
            }
        }

        private void lose() {
            grain -= grain / 10;
            seed -= seed / 8;
            if (year % 5 == 4) tools = stored(tools - 1);
        }

        private void forget() {
            for (int f = 0; f < size; f++) {
                Family one = member(f);
                one.memory = Math.max(0, one.memory - one.ways.forgets());
            }
        }

        private void remember() {
            for (int f = 0; f < size; f++) member(f).memory = MOST_MEMORY;
        }

        void allDo(int job) {
            for (int f = 0; f < size; f++) member(f).job = job;
        }

        /** Those of a set alone TEACH; who TEACHES else has REST. */
        void onlyTeach(int set) {
            for (int f = 0; f < size; f++) {
                Family one = member(f);
                if ((set >> f & 1) != 0) one.job = TEACH;
                else if (one.job == TEACH) one.job = REST;
            }
        }

        boolean allKnow() {
            for (int f = 0; f < size; f++) {
                if (member(f).memory <= 0) return false;
            }
            return true;
        }

        long mixInto(long start) {
            long h = start;
            for (int f = 0; f < size; f++) {
                Family one = member(f);
                h = mix(mix(h, one.kind), one.mouths);
                h = mix(mix(h, one.memory), one.job);
            }
            return h;
        }
    }

    /** What is told and no year changes: the RATE, the DEBTS, REPORTS and WORDS. */
    private static final class Books {
        int rate, debts, reports, words;
        private final int[] from = new int[MOST_DEBTS], to = new int[MOST_DEBTS], owed = new int[MOST_DEBTS];
        private final int[] years = new int[MOST_REPORTS];
        private final int[] tellers = new int[MOST_REPORTS], counted = new int[MOST_REPORTS];
        private final int[] song = new int[MOST_WORDS * LETTERS];

        void begin() {
            rate = 0;
            debts = 0;
            reports = 0;
            words = 0;
        }

        void setTo(Books other) {
            rate = other.rate;
            debts = other.debts;
            reports = other.reports;
            words = other.words;
            copy(other.from, from);
            copy(other.to, to);
            copy(other.owed, owed);
            copy(other.years, years);
            copy(other.tellers, tellers);
            copy(other.counted, counted);
            copy(other.song, song);
        }

        /** How many DEBTS (0), REPORTS (1), WORDS (2); NONE for another what. */
        int howMany(int what) {
            switch (what) {
                case 0: return debts;
                case 1: return reports;
                case 2: return words;
                default: return NONE;
            }
        }

        void strike(int what) {
            switch (what) {
                case 0: debts = 0; break;
                case 1: reports = 0; break;
                case 2: words = 0; break;
                default: break;
            }
        }

        int addDebt(int debtor, int lender, int n) {
            put(from, debts, debtor);
            put(to, debts, lender);
            put(owed, debts, n);
            return debts++;
        }

        int addReport(int number, int family, int n) {
            put(years, reports, number);
            put(tellers, reports, family);
            put(counted, reports, n);
            return reports++;
        }

        int addWord(int[] row) {
            for (int i = 0; i < LETTERS; i++) put(song, words * LETTERS + i, at(row, i));
            return words++;
        }

        /** NET of a FAMILY, the NOON being so many YEARS away. */
        int balance(int family, int away) {
            int sum = 0;
            for (int d = 0; d < debts; d++) {
                int n = at(owed, d);
                int due = n + n * rate * away / 100;
                if (at(to, d) == family) sum += due;
                if (at(from, d) == family) sum -= due;
            }
            return sum;
        }

        int fewestLiars(int size) {
            int all = (1 << size) - 1;
            int fewest = all;
            for (int set = 0; set <= all; set++) {
                if (alikeWithout(set) && Integer.bitCount(set) < Integer.bitCount(fewest)) fewest = set;
            }
            return fewest;
        }

        int sureLiars(int size) {
            int all = (1 << size) - 1;
            int sure = all;
            for (int set = 0; set <= all; set++) {
                if (alikeWithout(set)) sure &= set;
            }
            return sure;
        }

        private boolean alikeWithout(int set) {
            for (int r = 0; r < reports; r++) {
                for (int s = 0; s < r; s++) {
                    if (isTold(r, set) && isTold(s, set) && differ(r, s)) return false;
                }
            }
            return true;
        }

        private boolean isTold(int r, int set) {
            return (set >> at(tellers, r) & 1) == 0;
        }

        private boolean differ(int r, int s) {
            return at(years, r) == at(years, s) && at(counted, r) != at(counted, s);
        }

        int letter(int w, int place) {
            return at(song, w * LETTERS + place);
        }

        int wordsApart(int v, int w) {
            int slips = 0;
            for (int i = 0; i < LETTERS; i++) {
                if (letter(v, i) != letter(w, i)) slips++;
            }
            return slips;
        }

        int nearestPair() {
            int nearest = NONE;
            for (int w = 1; w < words; w++) {
                for (int v = 0; v < w; v++) {
                    int slips = wordsApart(v, w);
                    if (nearest == NONE || slips < nearest) nearest = slips;
                }
            }
            return nearest;
        }

        int nearestWord(int[] row) {
            int nearest = NONE, fewest = LETTERS + 1;
            for (int w = 0; w < words; w++) {
                int slips = 0;
                for (int i = 0; i < LETTERS; i++) {
                    if (letter(w, i) != at(row, i)) slips++;
                }
                if (slips < fewest) {
                    fewest = slips;
                    nearest = w;
                }
            }
            return nearest;
        }

        long mixInto(long start) {
            long h = mix(start, rate);
            for (int d = 0; d < debts; d++) h = mix(mix(mix(h, at(from, d)), at(to, d)), at(owed, d));
            for (int r = 0; r < reports; r++) h = mix(mix(mix(h, at(years, r)), at(tellers, r)), at(counted, r));
            for (int i = 0; i < words * LETTERS; i++) h = mix(h, at(song, i));
            return h;
        }
    }

    /** All that an IMAGE keeps: a Farm, its Books, and the Farm as ahead of its last YEARS. */
    private static final class Lump {
        final Farm farm;
        final Books books = new Books();
        private final Farm[] past = new Farm[MOST_UNDONE];
        private int last;
        int undoable;

        Lump(Farmers[] kinds) {
            farm = new Farm(kinds);
            for (int i = 0; i < past.length; i++) past[i] = new Farm(kinds);
        }

        void begin(int y) {
            farm.begin(y);
            books.begin();
            undoable = 0;
        }

        void setTo(Lump other) {
            farm.setTo(other.farm);
            books.setTo(other.books);
            last = other.last;
            undoable = other.undoable;
            for (int i = 0; i < past.length; i++) {
                Farm ours = farmAt(past, i), theirs = farmAt(other.past, i);
                if (ours != null && theirs != null) ours.setTo(theirs);
            }
        }

        /** One YEAR goes by and may be undone; the oldest that may be gives way to it. */
        int goBy() {
            last = leftOver(last + 1, MOST_UNDONE);
            undoable = Math.min(MOST_UNDONE, undoable + 1);
            Farm slot = farmAt(past, last);
            if (slot != null) slot.setTo(farm);
            return farm.goBy(false);
        }

        boolean goBack() {
            Farm slot = farmAt(past, last);
            if (undoable == 0 || slot == null) return false;
            farm.goBackTo(slot);
            last = leftOver(last + MOST_UNDONE - 1, MOST_UNDONE);
            undoable--;
            return true;
        }
    }

    /** THE TEXT, and the reading of a LUMP from it, TOKEN by TOKEN. */
    private static final class Reader {
        private static final int END = 0, STOP = 1, WORD = 2, NUMBER = 3, FAULTY = 4;
        private static final int YEAR = 0, STORE = 1, FAMILY = 2, JOB = 3, DEBT = 4;
        private static final int LAST_FAMILY = -1;
        private static final int[] NUMBERS = {1, 2, 3, 2, 3};
        // three a kind of ITEM, in the order of its numbers
        private static final int[] LEAST = {2, 0, 0, 0, 0, 0, 0, 1, 0, 0, 0, 0, 0, 0, 1};
        private static final int[] MOST = {70, 0, 0, 3, 9999, 0, 4, 20, 9,
            LAST_FAMILY, 4, 0, LAST_FAMILY, LAST_FAMILY, 999};

        private final int[] bytes = new int[MOST_TEXT];
        private final int[] told = new int[3];
        int size;
        private int start, after, sort, value;

        int add(int c) {
            put(bytes, size, c);
            return ++size;
        }

        /** How many ITEMS, the lump being made of them; or -10 less the FAULT. */
        int readInto(Lump made) {
            made.begin(FIRST_SPAN);
            after = 0;
            // an ITEM has a byte at least, so there are no more of them than bytes
            for (int items = 0; items <= size; items++) {
                advance();
                if (sort == END && items > 0) return items;
                if (!readItem(made, items == 0)) break;
            }
            return -10 - start;
        }

        private boolean readItem(Lump made, boolean first) {
            int item = itemTold();
            if (item == NONE || (item == YEAR) != first) return false;
            if (item == FAMILY && made.farm.size >= MOST_FAMILIES) return false;
            if (item == DEBT && made.books.debts >= MOST_DEBTS) return false;
            for (int i = 0; i < at(NUMBERS, item); i++) {
                advance();
                if (sort != NUMBER || !fits(item, i, made.farm.size)) return false;
                put(told, i, value);
            }
            advance();
            if (sort != STOP) return false;
            addTo(made, item);
            return true;
        }

        private int itemTold() {
            if (sort != WORD) return NONE;
            if (spells("year")) return YEAR;
            if (spells("store")) return STORE;
            if (spells("family")) return FAMILY;
            if (spells("job")) return JOB;
            if (spells("debt")) return DEBT;
            return NONE;
        }

        private boolean spells(String name) {
            if (after - start != name.length()) return false;
            for (int i = 0; i < name.length(); i++) {
                if (at(bytes, start + i) != name.charAt(i)) return false;
            }
            return true;
        }

        private boolean fits(int item, int i, int families) {
            int most = at(MOST, 3 * item + i);
            if (most == LAST_FAMILY) most = families - 1;
            if (item == DEBT && i == 1 && value == at(told, 0)) return false;
            return within(value, at(LEAST, 3 * item + i), most);
        }

        private void addTo(Lump made, int item) {
            int a = at(told, 0), b = at(told, 1), c = at(told, 2);
            switch (item) {
                case YEAR: made.farm.begin(a); break;
                case STORE: made.farm.restock(a, b); break;
                case FAMILY: made.farm.settle(a, b, c); break;
                case JOB: made.farm.member(a).job = b; break;
                case DEBT: made.books.addDebt(a, b, c); break;
                default: break;
            }
        }

        /** On to the next TOKEN; at the TEXT's end it starts at the TEXT's length. */
        private void advance() {
            int p = after;
            while (p < size && at(bytes, p) == ' ') p++;
            start = p;
            after = p + 1;
            if (p >= size) {
                sort = END;
                after = size;
            } else if (at(bytes, p) == ';') {
                sort = STOP;
            } else if (isLetter(p)) {
                sort = WORD;
                while (after < size && isLetter(after)) after++;
            } else if (isFigure(p)) {
                advanceNumber();
            } else {
                sort = FAULTY;
            }
        }

        private void advanceNumber() {
            value = 0;
            int p = start;
            while (p < size && isFigure(p)) {
                value = 10 * value + at(bytes, p) - '0';
                p++;
            }
            after = p;
            sort = p - start <= 4 ? NUMBER : FAULTY;
        }

        private boolean isLetter(int p) {
            return within(at(bytes, p), 'a', 'z');
        }

        private boolean isFigure(int p) {
            return within(at(bytes, p), '0', '9');
        }
    }

    /** Farms and rows on which is tried what would be, the lump itself staying as it is. */
    private static final class Trials {
        private final Farm[] farms = new Farm[MOST_NOONS];
        private final int[] tried = new int[MOST_PLAN], planned = new int[MOST_PLAN];
        private final int[] sums = new int[1 << MOST_FAMILIES], groups = new int[1 << MOST_FAMILIES];
        private final Farm one;
        private int mostGrain;

        Trials(Farmers[] kinds) {
            one = new Farm(kinds);
            for (int i = 0; i < farms.length; i++) farms[i] = new Farm(kinds);
        }

        /** GRAIN at last by the PLAN, or NONE. */
        int bestPlan(Farm now, int m) {
            mostGrain = NONE;
            planFrom(this, now, 0, m);
            return mostGrain;
        }

        int plannedJob(int i) {
            return at(planned, i);
        }

        private static void planFrom(Trials trials, Farm here, int depth, int m) {
            if (depth >= m) {
                trials.keepIfMost(here.grain);
                return;
            }
            Farm next = farmAt(trials.farms, depth);
            if (next == null) return;
            // a NOON has no JOBS, and those of the last YEAR come too late to change GRAIN
            int jobs = here.isNoon(here.year) || depth == m - 1 ? 1 : JOBS;
            for (int job = 0; job < jobs; job++) {
                put(trials.tried, depth, job);
                next.setTo(here);
                next.allDo(job);
                if (next.goBy(false) == 0) planFrom(trials, next, depth + 1, m);
            }
        }

        /** Of like rows the first stays, since rows are tried in their order. */
        private void keepIfMost(int grain) {
            if (grain <= mostGrain) return;
            mostGrain = grain;
            copy(tried, planned);
        }

        /** FIRST WANT, were there so much GRAIN now. */
        int firstWant(Farm now, int n, int grain) {
            one.setTo(now);
            one.grain = grain;
            for (int i = 0; i < n; i++) {
                if (one.goBy(false) > 0) return i;
            }
            return NONE;
        }

        /** More GRAIN never brings more WANT, so that halving finds the least. */
        int leastHeld(Farm now, int n) {
            int least = 0, most = MOST_HELD + 1;
            for (int step = 0; step < 20 && least < most; step++) {
                int middle = (least + most) / 2;
                if (firstWant(now, n, middle) == NONE) most = middle;
                else least = middle + 1;
            }
            return least > MOST_HELD ? NONE : least;
        }

        /** Of 10 ways for each NOON within n YEARS, in how many rows of ways there is no WANT. */
        long calmWays(Farm now, int n, int p) {
            one.setTo(now);
            return calmFrom(farms, one, 0, n, p);
        }

        private static long calmFrom(Farm[] farms, Farm here, int depth, int years, int p) {
            int left = years;
            for (int i = 0; i < years && !here.isNoon(here.year); i++) {
                if (here.goBy(false) > 0) return 0;
                left--;
            }
            if (left == 0) return 1;
            Farm next = farmAt(farms, depth);
            if (next == null) return 0;
            long ways = 0;
            next.setTo(here);
            if (next.goBy(true) == 0) ways += p * calmFrom(farms, next, depth + 1, left - 1, p);
            next.setTo(here);
            if (next.goBy(false) == 0) ways += (10 - p) * calmFrom(farms, next, depth + 1, left - 1, p);
            return ways;
        }

        int fewestTeachers(Farm now, int n) {
            int fewest = NONE;
            // NONE has all bits, so that any set has fewer
            for (int set = 0; set < 1 << now.size; set++) {
                if (Integer.bitCount(set) < Integer.bitCount(fewest) && keepsMemory(now, n, set)) fewest = set;
            }
            return fewest;
        }

        private boolean keepsMemory(Farm now, int n, int set) {
            one.setTo(now);
            one.onlyTeach(set);
            for (int i = 0; i < n; i++) one.goBy(false);
            return one.allKnow();
        }

        /** A group whose NETS make 0 is cleared by one payment less than it has FAMILIES: so the most groups are sought. */
        int fewestPayments(Lump lump) {
            int size = lump.farm.size;
            int away = lump.farm.yearsToNoon();
            int all = (1 << size) - 1;
            for (int set = 1; set <= all; set++) {
                int first = Integer.numberOfTrailingZeros(set);
                put(sums, set, at(sums, set & set - 1) + lump.books.balance(first, away));
                put(groups, set, mostGroupsBelow(set, size) + (at(sums, set) == 0 ? 1 : 0));
            }
            return size - at(groups, all);
        }

        private int mostGroupsBelow(int set, int size) {
            int most = 0;
            for (int f = 0; f < size; f++) {
                if ((set >> f & 1) != 0) most = Math.max(most, at(groups, set ^ 1 << f));
            }
            return most;
        }
    }
}
