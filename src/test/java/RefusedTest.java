import java.util.ArrayList;
import java.util.List;

/**
 * Each number of each call: the last that is taken and the first that is refused on either side; and
 * each refusal, in an empty, a rich and a full object: it changes nothing but STATUS, and STATUS by one.
 */
public final class RefusedTest {
    private static final Due due = new Due("RefusedTest");
    private static final Twins twins = new Twins(due);
    private static final int BAD = LongYear.BAD, NO = LongYear.NO, FULL = LongYear.FULL, NONE = LongYear.NONE;
    private static final int ANY = Integer.MAX_VALUE;

    private interface Asked {
        long of(LongYear x, int[] a);
    }

    /** A call, what it answers as BAD, and the least and most of each of its numbers. */
    private record Call(String name, long bad, Asked asked, int[] least, int[] most) {
    }

    private record State(String name, Twins.Made made, int families, int words) {
    }

    public static void main(String[] args) {
        State[] states = {new State("empty", LongYear::new, 0, 0), new State("rich", Lumps::rich, 3, 2),
            new State("full", Lumps::full, 6, 4)};
        for (State state : states) {
            for (Call call : calls(state)) refusedOutside(state, call);
        }
        for (Call call : calls(states[1])) takenInside(states[1], call);
        for (Call call : calls(states[2])) takenInside(states[2], call);
        twoBadNumbersAreOneRefusal();
        debtAlike();
        meetWithinItsYear();
        refusedAsNo();
        refusedAsFull();
        roomForOneMore();
        answersThatAreNoRefusals();
        questionsChangeNothing();
        chanceChangesTheFractionAlone();
        thereAndBackAgain();
        booksStruckAndToldAgain();
        due.end();
    }

    private static List<Call> calls(State s) {
        List<Call> all = new ArrayList<>();
        int last = s.families - 1, lastWord = s.words - 1;
        add(all, "2: year", BAD, (x, a) -> x.year(a[0]), 2, 70);
        add(all, "3: store", BAD, (x, a) -> x.store(a[0], a[1]), 0, 3, 0, 9999);
        add(all, "4: family", BAD, (x, a) -> x.family(a[0], a[1], a[2]), 0, 4, 1, 20, 0, 9);
        add(all, "5: job", BAD, (x, a) -> x.job(a[0], a[1]), 0, last, 0, 4);
        add(all, "6: type", BAD, (x, a) -> x.type(a[0]), 0, 127);
        add(all, "9: pass", BAD, (x, a) -> x.pass(a[0]), 1, 20);
        add(all, "11: about", BAD, (x, a) -> x.about(a[0], a[1]), 0, last, 0, 3);
        add(all, "12: eats", BAD, (x, a) -> x.eats(a[0], a[1]), 0, last, 0, 9999);
        add(all, "14: plan", -10, (x, a) -> x.plan(a[0], a[1]), 0, 5, NONE, ANY);
        add(all, "15: want", BAD, (x, a) -> x.want(a[0]), 0, 200);
        add(all, "16: held", -10, (x, a) -> x.held(a[0]), 0, 200);
        add(all, "17: chance", BAD, (x, a) -> x.chance(a[0], a[1]), 0, 60, 0, 10);
        add(all, "18: teachers", BAD, (x, a) -> x.teachers(a[0]), 0, 60);
        add(all, "19: debt from", BAD, (x, a) -> x.debt(a[0], 1, a[1]), 0, last, 1, 999);
        add(all, "19: debt to", BAD, (x, a) -> x.debt(1, a[0], a[1]), 0, last, 1, 999);
        add(all, "20: rate", BAD, (x, a) -> x.rate(a[0]), 0, 50);
        add(all, "21: net", -100000, (x, a) -> x.net(a[0]), 0, last);
        add(all, "23: report", BAD, (x, a) -> x.report(a[0], a[1], a[2]), 0, 99, 0, last, 0, 9999);
        add(all, "24: liars", BAD, (x, a) -> x.liars(a[0]), 0, 1);
        add(all, "25: none", BAD, (x, a) -> x.none(a[0]), 0, 2);
        add(all, "26: lots", BAD, (x, a) -> x.lots(a[0], a[1]), 0, 999999, 0, s.families);
        add(all, "27: word", BAD, (x, a) -> x.word(a[0], a[1], a[2], a[3], a[4], a[5]),
            0, 25, 0, 25, 0, 25, 0, 25, 0, 25, 0, 25);
        add(all, "28: toldOn", BAD, (x, a) -> x.toldOn(a[0], a[1], a[2]), 0, lastWord, 0, 30, 0, 5);
        add(all, "29: apart", BAD, (x, a) -> x.apart(a[0], a[1]), 0, lastWord, 0, lastWord);
        add(all, "31: meant", BAD, (x, a) -> x.meant(a[0], a[1], a[2], a[3], a[4], a[5]),
            0, 25, 0, 25, 0, 25, 0, 25, 0, 25, 0, 25);
        add(all, "32: meet", BAD, (x, a) -> x.meet(a[0], a[1]), 2, 70, 0, 1);
        add(all, "33: part", BAD, (x, a) -> x.part(a[0]), 0, 1);
        add(all, "34: image", BAD, (x, a) -> x.image(a[0]), 0, 1);
        add(all, "35: from", BAD, (x, a) -> x.from(a[0]), 0, 1);
        add(all, "36: status", -1, (x, a) -> x.status(a[0]), 0, 2);
        add(all, "37: count", BAD, (x, a) -> x.count(a[0]), 0, 13);
        return all;
    }

    private static void add(List<Call> all, String name, long bad, Asked asked, int... ranges) {
        int[] least = new int[ranges.length / 2], most = new int[ranges.length / 2];
        for (int i = 0; i < least.length; i++) {
            least[i] = ranges[2 * i];
            most[i] = ranges[2 * i + 1];
        }
        all.add(new Call(name, bad, asked, least, most));
    }

    private static void refusedOutside(State state, Call call) {
        for (int i = 0; i < call.least.length; i++) {
            refusedWith(state, call, i, call.least[i] - 1);
            refusedWith(state, call, i, Integer.MIN_VALUE);
            if (call.most[i] == ANY) continue;
            refusedWith(state, call, i, call.most[i] + 1);
            refusedWith(state, call, i, Integer.MAX_VALUE);
        }
    }

    private static void refusedWith(State state, Call call, int i, int number) {
        int[] a = call.least.clone();
        a[i] = number;
        twins.refused(named(state, call, a), state.made, x -> call.asked.of(x, a), call.bad, Twins.BAD);
    }

    private static void takenInside(State state, Call call) {
        for (int i = 0; i < call.least.length; i++) {
            takenWith(state, call, i, call.least[i]);
            takenWith(state, call, i, call.most[i]);
        }
        takenAll(state, call, call.least);
        // meet's second range stands for the least of its first, and a plan has no most place
        if (!call.name.startsWith("32")) takenAll(state, call, call.most);
    }

    private static void takenWith(State state, Call call, int i, int number) {
        int[] a = call.least.clone();
        a[i] = number;
        takenAll(state, call, a);
    }

    private static void takenAll(State state, Call call, int[] a) {
        LongYear x = state.made.make();
        int bads = x.status(0);
        call.asked.of(x, a);
        due.is(named(state, call, a) + " is not refused as BAD", x.status(0), bads);
    }

    private static String named(State state, Call call, int[] a) {
        StringBuilder text = new StringBuilder(call.name + " in the " + state.name + " one:");
        for (int n : a) text.append(' ').append(n);
        return text.toString();
    }

    private static void twoBadNumbersAreOneRefusal() {
        twins.refused("3: both", Lumps::rich, x -> x.store(4, 10000), BAD, Twins.BAD);
        twins.refused("4: all three", Lumps::full, x -> x.family(5, 21, 10), BAD, Twins.BAD);
        twins.refused("14: both", Lumps::rich, x -> x.plan(6, -2), -10, Twins.BAD);
        twins.refused("17: both", Lumps::rich, x -> x.chance(61, 11), BAD, Twins.BAD);
        twins.refused("19: all three", Lumps::full, x -> x.debt(6, 6, 1000), BAD, Twins.BAD);
        twins.refused("23: all three", Lumps::full, x -> x.report(100, 6, 10000), BAD, Twins.BAD);
        twins.refused("27: all six", Lumps::full, x -> x.word(26, 26, 26, 26, 26, 26), BAD, Twins.BAD);
        twins.refused("31: all six", Lumps::full, x -> x.meant(-1, -1, -1, -1, -1, -1), BAD, Twins.BAD);
        twins.refused("32: both", Lumps::rich, x -> x.meet(71, 71), BAD, Twins.BAD);
    }

    private static void debtAlike() {
        for (int f = 0; f < 3; f++) {
            int one = f;
            twins.refused("19: alike " + f, Lumps::rich, x -> x.debt(one, one, 5), BAD, Twins.BAD);
        }
        twins.refused("19: alike ahead of FULL", Lumps::full, x -> x.debt(5, 5, 5), BAD, Twins.BAD);
    }

    /** r is from 0 to Z less 1, whatever Z is. */
    private static void meetWithinItsYear() {
        for (int z : new int[] {2, 3, 10, 69, 70}) {
            LongYear x = new LongYear();
            x.meet(z, z - 1);
            x.meet(z, 0);
            due.is("32: r from 0 to " + (z - 1), x.status(0), 0);
            twins.refused("32: r of " + z, Lumps::rich, y -> y.meet(z, z), BAD, Twins.BAD);
            twins.refused("32: r of -1", Lumps::rich, y -> y.meet(z, -1), BAD, Twins.BAD);
        }
    }

    private static void refusedAsNo() {
        twins.refused("10: nothing to undo", LongYear::new, x -> x.undo(), NO, Twins.NO);
        twins.refused("10: all is undone", RefusedTest::undone, x -> x.undo(), NO, Twins.NO);
        twins.refused("35: image 0 was not kept", LongYear::new, x -> x.from(0), NO, Twins.NO);
        twins.refused("35: image 1 was not kept", LongYear::new, x -> x.from(1), NO, Twins.NO);
        twins.refused("35: the other one was", Lumps::rich, x -> x.from(1), NO, Twins.NO);
        twins.refused("17: 9 NOONS from a DUSK", () -> Lumps.shortYears(false), x -> x.chance(18, 5), NO, Twins.NO);
        twins.refused("17: 9 NOONS from a NOON", () -> Lumps.shortYears(true), x -> x.chance(17, 5), NO, Twins.NO);
        twins.refused("17: 30 NOONS", () -> Lumps.shortYears(false), x -> x.chance(60, 0), NO, Twins.NO);
        twins.refused("17: 10 NOONS in the rich one", Lumps::rich, x -> x.chance(60, 10), NO, Twins.NO);
        twins.refused("17: BAD ahead of NO", () -> Lumps.shortYears(false), x -> x.chance(60, 11), BAD, Twins.BAD);
        twins.refused("35: BAD ahead of NO", LongYear::new, x -> x.from(2), BAD, Twins.BAD);
    }

    private static LongYear undone() {
        LongYear x = Lumps.rich();
        while (x.count(12) > 0) x.undo();
        return x;
    }

    private static void refusedAsFull() {
        twins.refused("4: a seventh", Lumps::full, x -> x.family(0, 1, 0), FULL, Twins.FULL);
        twins.refused("4: a seventh", Lumps::full, x -> x.family(4, 20, 9), FULL, Twins.FULL);
        twins.refused("6: a 151st byte", Lumps::full, x -> x.type(0), FULL, Twins.FULL);
        twins.refused("6: a 151st byte", Lumps::full, x -> x.type(127), FULL, Twins.FULL);
        twins.refused("19: a ninth", Lumps::full, x -> x.debt(0, 1, 1), FULL, Twins.FULL);
        twins.refused("19: a ninth", Lumps::full, x -> x.debt(5, 4, 999), FULL, Twins.FULL);
        twins.refused("23: an eleventh", Lumps::full, x -> x.report(0, 0, 0), FULL, Twins.FULL);
        twins.refused("23: an eleventh", Lumps::full, x -> x.report(99, 5, 9999), FULL, Twins.FULL);
        twins.refused("27: a fifth", Lumps::full, x -> x.word(0, 0, 0, 0, 0, 0), FULL, Twins.FULL);
        twins.refused("27: a fifth", Lumps::full, x -> x.word(25, 25, 25, 25, 25, 25), FULL, Twins.FULL);
    }

    /** One less than full is not full; and what is emptied takes as many again. */
    private static void roomForOneMore() {
        LongYear x = new LongYear();
        for (int f = 0; f < 6; f++) due.is("4: FAMILIES 0 .. 5", x.family(0, 1, 0), f);
        for (int round = 0; round < 2; round++) {
            for (int d = 0; d < 8; d++) due.is("19: DEBTS 0 .. 7", x.debt(0, 1, 1), d);
            for (int r = 0; r < 10; r++) due.is("23: REPORTS 0 .. 9", x.report(0, 0, 0), r);
            for (int w = 0; w < 4; w++) due.is("27: WORDS 0 .. 3", x.word(0, 0, 0, 0, 0, 0), w);
            for (int c = 1; c <= 150; c++) due.is("6: 150 bytes at most", x.type(';'), c);
            due.is("19: then FULL", x.debt(0, 1, 1), FULL);
            due.is("23: then FULL", x.report(0, 0, 0), FULL);
            due.is("27: then FULL", x.word(0, 0, 0, 0, 0, 0), FULL);
            due.is("6: then FULL", x.type(';'), FULL);
            for (int what = 0; what < 3; what++) due.is("25: emptied", x.none(what), new int[] {8, 10, 4}[what]);
            due.is("7: emptied", x.clear(), 150);
        }
        due.is("36: four, twice", x.status(2), 8);
        due.is("36: none was BAD", x.status(0), 0);
        x.year(5);
        for (int f = 0; f < 6; f++) due.is("4: six again behind a year", x.family(4, 20, 9), f);
        due.is("4: then FULL", x.family(4, 20, 9), FULL);
    }

    private static void answersThatAreNoRefusals() {
        twins.changesNothing("8: a FAULT", RefusedTest::faulty, x -> x.read(), -10 - 31);
        twins.changesNothing("8: an empty text", LongYear::new, x -> x.read(), -10);
        twins.changesNothing("14: not so many", Lumps::rich, x -> x.plan(2, 2), -5);
        twins.changesNothing("14: not so many of none", Lumps::rich, x -> x.plan(0, 0), -5);
        twins.changesNothing("14: none", RefusedTest::hungry, x -> x.plan(1, NONE), NONE);
        twins.changesNothing("14: no job of none", RefusedTest::hungry, x -> x.plan(5, 5), NONE);
        twins.changesNothing("15: none", LongYear::new, x -> x.want(200), NONE);
        twins.changesNothing("16: none", RefusedTest::hungry, x -> x.held(200), NONE);
        twins.changesNothing("18: none", RefusedTest::hungry, x -> x.teachers(0), NONE);
        twins.changesNothing("30: none", LongYear::new, x -> x.bears(), NONE);
        twins.changesNothing("31: none", LongYear::new, x -> x.meant(0, 0, 0, 0, 0, 0), NONE);
        twins.changesNothing("32: none", LongYear::new, x -> x.meet(10, 0), NONE);
    }

    private static LongYear faulty() {
        LongYear x = Lumps.rich();
        Due.type(x, " year 4;");
        return x;
    }

    private static LongYear hungry() {
        return Due.told("year 5;family 3 20 0;family 0 20 0;");
    }

    private static void questionsChangeNothing() {
        Twins.Call[] questions = {x -> x.about(2, 3), x -> x.eats(2, 5), x -> x.fields(), x -> x.plan(5, NONE),
            x -> x.plan(5, 4), x -> x.want(200), x -> x.held(200), x -> x.teachers(60), x -> x.net(1), x -> x.cleared(),
            x -> x.liars(0), x -> x.liars(1), x -> x.lots(7, 3), x -> x.toldOn(1, 30, 5), x -> x.apart(0, 1),
            x -> x.bears(), x -> x.meant(1, 1, 1, 1, 1, 1), x -> x.meet(7, 3), x -> x.part(0), x -> x.part(1),
            x -> x.status(0), x -> x.count(12), x -> x.digest()};
        for (int i = 0; i < questions.length; i++) {
            Twins.Call ask = questions[i];
            twins.changesNothing("question " + i, Lumps::rich, ask, ask.on(Lumps.rich()));
            twins.changesNothing("question " + i + " of the full one", Lumps::full, ask, ask.on(Lumps.full()));
        }
    }

    private static void chanceChangesTheFractionAlone() {
        twins.changesNothing("17: the same FRACTION", () -> asked(Lumps.rich()), x -> x.chance(0, 10), 1);
        LongYear x = Lumps.rich(), y = Lumps.rich();
        due.is("17: asked", x.chance(40, 10), 1);
        due.is("17: part", x.digest() == y.digest() ? 1 : 0, 0);
        for (int what = 0; what <= 13; what++) due.is("17: count " + what, x.count(what), y.count(what));
        while (y.count(12) > 0) due.is("17: undone as ever", x.undo(), y.undo());
        for (int what = 0; what <= 13; what++) due.is("17: count " + what, x.count(what), y.count(what));
    }

    private static LongYear asked(LongYear x) {
        x.chance(0, 0);
        return x;
    }

    /** What is told and told back leaves nothing else changed. */
    private static void thereAndBackAgain() {
        for (int i = 0; i < 4; i++) {
            int which = i;
            twins.changesNothing("3: STORE " + which, Lumps::rich, x -> x.store(which, x.store(which, 5)), 5);
            twins.changesNothing("3: STORE " + which, Lumps::full, x -> x.store(which, x.store(which, 0)), 0);
        }
        for (int i = 0; i < 3; i++) {
            int f = i;
            twins.changesNothing("5: JOB of " + f, Lumps::rich, x -> x.job(f, x.job(f, 4)), 4);
        }
        twins.changesNothing("20: RATE", Lumps::rich, x -> x.rate(x.rate(50)), 50);
        twins.changesNothing("7: clear and type", Lumps::rich, RefusedTest::typedAgain, 31);
        twins.changesNothing("9: pass and undo", Lumps::rich, x -> x.pass(1) + x.undo(), 1);
        twins.changesNothing("9: pass and undo, twice", Lumps::rich, x -> x.pass(2) + x.undo() + x.undo(), 2);
        twins.changesNothing("34: the same image, and from it", Lumps::full, x -> x.from(1) + x.image(1), 2);
    }

    private static long typedAgain(LongYear x) {
        int bytes = x.clear();
        Due.type(x, "year 4;store 1 5;family 0 2 3;");
        return bytes + 1;
    }

    private static void booksStruckAndToldAgain() {
        twins.changesNothing("19: DEBTS", Lumps::rich, x -> x.none(0) + x.debt(0, 1, 50) + x.debt(2, 1, 7), 2 + 0 + 1);
        twins.changesNothing("23: REPORTS", Lumps::rich, x -> x.none(1) + x.report(3, 1, 40) + x.report(3, 2, 41), 2 + 0 + 1);
        twins.changesNothing("27: WORDS", Lumps::rich,
            x -> x.none(2) + x.word(1, 2, 3, 4, 5, 6) + x.word(6, 5, 4, 3, 2, 1), 2 + 0 + 1);
    }
}
