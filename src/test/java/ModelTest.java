/** Many runs of calls, drawn by numbers that are always the same, on the program and on the model of the document. */
public final class ModelTest {
    private static final int RUNS = 600, CALLS = 512, KINDS_OF_CALL = 37;
    private static final int LONGEST = 300;
    private static final String[] ITEMS = {"store", "family", "job", "debt"};

    private static long drawn = 1;
    private static int wrong;
    private static boolean atEdges;

    public static void main(String[] args) {
        for (int run = 0; run < RUNS && wrong == 0; run++) run(run);
        System.out.println("ModelTest: " + RUNS + " runs of up to " + CALLS + " calls, " + wrong + " answers apart");
        if (wrong != 0) System.exit(1);
    }

    private static int below(int n) {
        drawn = drawn * 6364136223846793005L + 1442695040888963407L;
        return (int) ((drawn >>> 33) % n);
    }

    /** Mostly from least to most; at times just outside, at times far off. */
    private static int in(int least, int most) {
        int die = below(60);
        if (die == 0) return least - 1;
        if (die == 1) return most + 1;
        if (die == 2) return below(2) == 0 ? Integer.MIN_VALUE + below(3) : Integer.MAX_VALUE - below(3);
        if (atEdges && die < 40) return die % 2 == 0 ? least : most;
        return least + below(most - least + 1);
    }

    private static void same(int run, int call, String what, long got, long want) {
        if (got == want) return;
        if (wrong++ < 20) {
            System.out.println("run " + run + " call " + call + ": " + what + " answered " + got + ", due is " + want);
        }
    }

    private static void run(int run) {
        LongYear x = new LongYear();
        Model m = new Model();
        // some runs stand for long, others are told anew often
        int change = run % 4 == 0 ? 3 : 30;
        // some look at all there is behind each call, which is a call, too
        int looks = run % 5 == 0 ? 1 : 16;
        int most = looks == 1 ? CALLS / 2 - 8 : CALLS - CALLS / 16 - 8;
        int calls = 0;
        atEdges = run % 3 == 0;
        if (run % 2 == 0) calls = told(run, calls, x, m, text());
        while (calls < most) {
            int which = below(KINDS_OF_CALL);
            if ((which == 0 || which == 6) && below(change) != 0) which = 8;
            if (which == 6 && calls > most - LONGEST) which = 8;
            if (which == 13 && below(6) != 0) which = 12;
            if (which == 15 && below(4) != 0) which = 14;
            if (which == 6) calls = told(run, calls, x, m, text());
            else call(run, calls, x, m, which);
            calls++;
            if (calls % looks == 0) same(run, calls, "digest", x.digest(), m.digest());
            if (wrong != 0) return;
        }
        for (int what = 0; what < 3; what++) same(run, calls, "status " + what, x.status(what), m.status(what));
        for (int what = 0; what < 2; what++) same(run, calls, "part " + what, x.part(what), m.part(what));
    }

    private static void call(int run, int n, LongYear x, Model m, int which) {
        if (which < 13) callLump(run, n, x, m, which);
        else if (which < 25) callTrial(run, n, x, m, which);
        else callSong(run, n, x, m, which);
    }

    private static void callLump(int run, int n, LongYear x, Model m, int which) {
        int a, b, c;
        switch (which) {
            case 0: a = in(2, below(3) == 0 ? 70 : 9); same(run, n, "year " + a, x.year(a), m.year(a)); break;
            case 1: a = in(0, 3); b = in(0, store());
                same(run, n, "store " + a + " " + b, x.store(a, b), m.store(a, b)); break;
            case 2: a = in(0, 4); b = in(1, 20); c = in(0, 9);
                same(run, n, "family " + a + " " + b + " " + c, x.family(a, b, c), m.family(a, b, c)); break;
            case 3: a = in(0, 5); b = in(0, 4); same(run, n, "job " + a + " " + b, x.job(a, b), m.job(a, b)); break;
            case 4: a = in(0, 127); same(run, n, "type " + a, x.type(a), m.type(a)); break;
            case 5: same(run, n, "clear", x.clear(), m.clear()); break;
            case 7: same(run, n, "read", x.read(), m.read()); break;
            case 8: a = in(1, below(4) == 0 ? 20 : 3); same(run, n, "pass " + a, x.pass(a), m.pass(a)); break;
            case 9: same(run, n, "undo", x.undo(), m.undo()); break;
            case 10: a = in(0, 5); b = in(0, 3); same(run, n, "about " + a + " " + b, x.about(a, b), m.about(a, b)); break;
            case 11: a = in(0, 5); b = in(0, 9999); same(run, n, "eats " + a + " " + b, x.eats(a, b), m.eats(a, b)); break;
            default: same(run, n, "fields", x.fields(), m.fields()); break;
        }
    }

    private static int store() {
        int die = below(8);
        return die == 0 ? 9999 : die < 4 ? 600 : 60;
    }

    private static void callTrial(int run, int n, LongYear x, Model m, int which) {
        int a, b, c;
        switch (which) {
            case 13: a = in(0, below(4) == 0 ? 5 : 3); b = in(-1, 5);
                same(run, n, "plan " + a + " " + b, x.plan(a, b), m.plan(a, b)); break;
            case 14: a = in(0, 200); same(run, n, "want " + a, x.want(a), m.want(a)); break;
            case 15: a = in(0, below(3) == 0 ? 200 : 12); same(run, n, "held " + a, x.held(a), m.held(a)); break;
            case 16: a = in(0, below(3) == 0 ? 60 : 16); b = in(0, 10);
                same(run, n, "chance " + a + " " + b, x.chance(a, b), m.chance(a, b)); break;
            case 17: a = in(0, below(3) == 0 ? 60 : 9); same(run, n, "teachers " + a, x.teachers(a), m.teachers(a)); break;
            case 18: a = in(0, 5); b = in(0, 5); c = in(1, below(2) == 0 ? 9 : 999);
                same(run, n, "debt " + a + " " + b + " " + c, x.debt(a, b, c), m.debt(a, b, c)); break;
            case 19: a = in(0, 50); same(run, n, "rate " + a, x.rate(a), m.rate(a)); break;
            case 20: a = in(0, 5); same(run, n, "net " + a, x.net(a), m.net(a)); break;
            case 21: same(run, n, "cleared", x.cleared(), m.cleared()); break;
            case 22: a = in(0, below(3) == 0 ? 99 : 3); b = in(0, 5); c = in(0, below(3) == 0 ? 9999 : 2);
                same(run, n, "report " + a + " " + b + " " + c, x.report(a, b, c), m.report(a, b, c)); break;
            case 23: a = in(0, 1); same(run, n, "liars " + a, x.liars(a), m.liars(a)); break;
            default: a = below(4) == 0 ? in(0, 2) : -1; same(run, n, "none " + a, x.none(a), m.none(a)); break;
        }
    }

    private static void callSong(int run, int n, LongYear x, Model m, int which) {
        int a, b, c;
        int[] l = {in(0, 25), in(0, 2), in(0, 2), in(0, 2), in(24, 25), in(0, 1)};
        switch (which) {
            case 25: a = in(0, 999999); b = in(0, 6); same(run, n, "lots " + a + " " + b, x.lots(a, b), m.lots(a, b)); break;
            case 26: same(run, n, "word", x.word(l[0], l[1], l[2], l[3], l[4], l[5]), m.word(l)); break;
            case 27: a = in(0, 3); b = in(0, 30); c = in(0, 5);
                same(run, n, "toldOn " + a + " " + b + " " + c, x.toldOn(a, b, c), m.toldOn(a, b, c)); break;
            case 28: a = in(0, 3); b = in(0, 3); same(run, n, "apart " + a + " " + b, x.apart(a, b), m.apart(a, b)); break;
            case 29: same(run, n, "bears", x.bears(), m.bears()); break;
            case 30: same(run, n, "meant", x.meant(l[0], l[1], l[2], l[3], l[4], l[5]), m.meant(l)); break;
            case 31: a = in(2, 70); b = in(0, Math.max(1, Math.min(69, a - 1)));
                same(run, n, "meet " + a + " " + b, x.meet(a, b), m.meet(a, b)); break;
            case 32: a = in(0, 1); same(run, n, "part " + a, x.part(a), m.part(a)); break;
            case 33: a = in(0, 1); same(run, n, "image " + a, x.image(a), m.image(a)); break;
            case 34: a = in(0, 1); same(run, n, "from " + a, x.from(a), m.from(a)); break;
            case 35: a = in(0, 2); same(run, n, "status " + a, x.status(a), m.status(a)); break;
            default: a = in(0, 13); same(run, n, "count " + a, x.count(a), m.count(a)); break;
        }
    }

    private static int told(int run, int calls, LongYear x, Model m, String text) {
        same(run, calls, "clear", x.clear(), m.clear());
        for (int i = 0; i < text.length(); i++) {
            same(run, calls, "type", x.type(text.charAt(i)), m.type(text.charAt(i)));
        }
        same(run, calls, "read " + text, x.read(), m.read());
        return calls + 2 + text.length();
    }

    /** A text that is mostly well formed, with blanks anywhere; half of all are hurt at one place. */
    private static String text() {
        StringBuilder t = new StringBuilder();
        word(t, "year", 2 + below(below(3) == 0 ? 69 : 8));
        int families = 0;
        for (int i = below(12); i > 0; i--) {
            int item = families < 2 ? below(2) : below(4);
            if (item == 0) word(t, ITEMS[0], below(4), below(store() + 1));
            if (item == 1) word(t, ITEMS[1], below(5), 1 + below(20), below(10));
            if (item == 2) word(t, ITEMS[2], below(families), below(5));
            if (item == 3) debtWord(t, families);
            if (item == 1) families++;
        }
        if (below(2) == 0) hurt(t);
        return t.toString();
    }

    private static void debtWord(StringBuilder t, int families) {
        int from = below(families), to = (from + 1 + below(families - 1)) % families;
        word(t, ITEMS[3], from, to, 1 + below(999));
    }

    private static void word(StringBuilder t, String name, int... numbers) {
        blanks(t);
        t.append(name);
        for (int i = 0; i < numbers.length; i++) {
            if (i > 0) t.append(' ');
            blanks(t);
            if (below(20) == 0) t.append('0');
            t.append(numbers[i]);
        }
        blanks(t);
        t.append(';');
        blanks(t);
    }

    private static void blanks(StringBuilder t) {
        for (int i = below(8) - 6; i > 0; i--) t.append(' ');
    }

    private static void hurt(StringBuilder t) {
        int place = below(t.length());
        switch (below(5)) {
            case 0: t.setLength(place); break;
            case 1: t.deleteCharAt(place); break;
            case 2: t.insert(place, "0159 ;azY-~".charAt(below(11))); break;
            case 3: t.setCharAt(place, (char) below(128)); break;
            default: t.insert(place, t.substring(place, Math.min(t.length(), place + 1 + below(12)))); break;
        }
    }
}
