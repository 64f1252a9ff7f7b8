/** Promises 9 to 13: years that go by and are undone, what families are and eat, fields. */
public final class YearsTest {
    private static final Due due = new Due("YearsTest");
    private static final int BAD = LongYear.BAD, NO = LongYear.NO;
    private static final int MOUTHS = 1, MEMORY = 2;
    private static final int TEACH = 1, MAKE = 2, TEND = 3, DIG = 4;

    public static void main(String[] args) {
        refusedYears();
        jobsByKind();
        sleepersRestInOddYears();
        teachInOrder();
        wantAndLosses();
        toolsAreWorn();
        coldInOrder();
        forgetting();
        noon();
        storesAreFull();
        wantAtNoon();
        undo();
        undoStepByStep();
        about();
        eats();
        fields();
        due.end();
    }

    private static void refusedYears() {
        LongYear x = new LongYear();
        due.is("9: none", x.pass(0), BAD);
        due.is("9: too many", x.pass(21), BAD);
        due.is("9: backwards", x.pass(-1), BAD);
        due.is("9: no year went by", x.count(1), 0);
        due.is("9: nobody wants", x.pass(20), 0);
        due.is("9: twenty", x.count(1), 20);
        due.is("9: two noons dug gas", x.count(5), 20);
    }

    /** What one family of each kind brings in the even YEAR 0, nothing else being there. */
    private static void jobsByKind() {
        int[] made = {1, 1, 1, 3, 1}, tended = {1, 1, 4, 1, 2};
        for (int kind = 0; kind < 5; kind++) {
            due.is("9: kind " + kind + " makes", brought(kind, MAKE, 4), made[kind]);
            due.is("9: kind " + kind + " tends", brought(kind, TEND, 3), tended[kind]);
            // one GAS keeps the family warm
            due.is("9: kind " + kind + " digs", brought(kind, DIG, 5), 3 - 1);
            due.is("9: kind " + kind + " rests", brought(kind, 0, 3), 0);
        }
    }

    private static int brought(int kind, int job, int what) {
        LongYear x = new LongYear();
        x.family(kind, 5, 5);
        x.job(0, job);
        x.pass(1);
        return x.count(what);
    }

    private static void sleepersRestInOddYears() {
        LongYear x = new LongYear();
        x.family(1, 1, 9);
        x.family(0, 1, 0);
        x.job(0, MAKE);
        x.pass(1);
        due.is("9: made", x.count(4), 1);
        x.pass(1);
        due.is("9: rested", x.count(4), 1);
        x.pass(1);
        due.is("9: made again", x.count(4), 2);
        x.job(0, TEACH);
        x.pass(1);
        due.is("9: taught nobody", x.about(1, MEMORY), 0);
        x.pass(1);
        // her 9 forgot 4 times; taught 5 less 1, of which 1 is forgotten
        due.is("9: taught", x.about(1, MEMORY), 3);
    }

    private static void teachInOrder() {
        LongYear x = new LongYear();
        x.family(4, 1, 3);
        x.family(4, 1, 9);
        x.family(4, 1, 0);
        x.job(0, TEACH);
        x.pass(1);
        due.is("9: her own stays", x.about(0, MEMORY), 3);
        due.is("9: who knows more keeps it", x.about(1, MEMORY), 9);
        due.is("9: less 1", x.about(2, MEMORY), 2);
        x.job(1, TEACH);
        x.job(0, 0);
        x.job(2, TEACH);
        x.pass(1);
        due.is("9: from the second", x.about(0, MEMORY), 8);
        due.is("9: from the second", x.about(2, MEMORY), 8);

        LongYear chain = new LongYear();
        chain.family(4, 1, 9);
        chain.family(4, 1, 0);
        chain.family(4, 1, 0);
        chain.job(1, TEACH);
        chain.job(0, TEACH);
        chain.pass(1);
        due.is("9: one taught just now teaches", chain.about(2, MEMORY), 8);
        LongYear late = new LongYear();
        late.family(4, 1, 0);
        late.family(4, 1, 0);
        late.family(4, 1, 9);
        late.job(0, TEACH);
        late.pass(1);
        due.is("9: nothing to teach", late.about(1, MEMORY), 0);
    }

    private static void wantAndLosses() {
        LongYear x = new LongYear();
        x.family(0, 20, 0);
        x.family(3, 9, 0);
        x.store(0, 129);
        x.store(1, 31);
        x.store(3, 50);
        due.is("9: fed", x.pass(1), 0);
        // 129 less 20 and 10, then a tenth of 99 is lost
        due.is("9: grain", x.count(2), 90);
        // an eighth of 31 is 3
        due.is("9: seed", x.count(3), 28);
        due.is("9: gas", x.count(5), 48);
        x.store(0, 30);
        due.is("9: just enough", x.pass(1), 0);
        x.store(0, 29);
        due.is("9: one lacks", x.pass(1), 1);
        due.is("9: none left", x.count(2), 0);
        due.is("9: all lacks, twice", x.pass(2), 60);
        due.is("9: wanted", x.count(10), 61);
        due.is("9: nobody cold", x.count(11), 0);
    }

    private static void toolsAreWorn() {
        LongYear x = new LongYear();
        x.year(70);
        x.store(2, 3);
        x.pass(4);
        due.is("9: years 0 to 3", x.count(4), 3);
        x.pass(1);
        due.is("9: year 4", x.count(4), 2);
        x.pass(4);
        due.is("9: years 5 to 8", x.count(4), 2);
        x.pass(1);
        due.is("9: year 9", x.count(4), 1);
        x.pass(10);
        due.is("9: not below none", x.count(4), 0);
        LongYear noon = new LongYear();
        noon.year(5);
        noon.store(2, 3);
        noon.pass(5);
        due.is("9: not in a noon", noon.count(4), 3);
    }

    private static void coldInOrder() {
        LongYear x = new LongYear();
        x.family(0, 3, 0);
        x.family(0, 3, 0);
        x.family(0, 2, 0);
        x.store(3, 2);
        x.store(0, 100);
        x.pass(1);
        due.is("9: warm", x.about(0, MOUTHS), 3);
        due.is("9: warm", x.about(1, MOUTHS), 3);
        due.is("9: cold", x.about(2, MOUTHS), 1);
        due.is("9: how many", x.count(11), 1);
        // eaten ahead of the cold: 100 less 8, less 9
        due.is("9: ate ahead of it", x.count(2), 83);
        x.pass(1);
        due.is("9: one stays", x.about(2, MOUTHS), 1);
        due.is("9: cold all the same", x.count(11), 4);
        due.is("9: cold", x.about(0, MOUTHS), 2);

        LongYear dug = new LongYear();
        dug.family(0, 3, 0);
        dug.family(0, 3, 0);
        dug.job(1, DIG);
        dug.pass(1);
        due.is("9: dug ahead of the cold", dug.count(11), 0);
        due.is("9: one left", dug.count(5), 1);
    }

    private static void forgetting() {
        LongYear x = new LongYear();
        for (int kind = 0; kind < 5; kind++) x.family(kind, 1, 2);
        x.pass(1);
        for (int kind = 0; kind < 4; kind++) due.is("9: forgets 1", x.about(kind, MEMORY), 1);
        x.pass(2);
        for (int kind = 0; kind < 4; kind++) due.is("9: not below none", x.about(kind, MEMORY), 0);
        due.is("9: singers forget nothing", x.about(4, MEMORY), 2);
    }

    private static void noon() {
        LongYear x = new LongYear();
        x.year(2);
        x.family(1, 9, 3);
        x.family(3, 2, 4);
        x.family(0, 5, 1);
        x.job(0, TEND);
        x.job(1, MAKE);
        x.job(2, DIG);
        x.store(3, 3);
        x.pass(1);
        // YEAR 0: a sleeper tends 1, makers make 3, farmers dig 3; all want: 5 and 3 and 5
        due.is("9: dusk wants", x.count(10), 13);
        x.store(0, 10);
        x.store(1, 40);
        x.store(2, 4);
        x.store(3, 0);
        due.is("13: who forgot all sows nothing", x.fields(), 11);
        due.is("9: a noon", x.pass(1), 0);
        // FIELDS 11: 10 and 55, less 9 and 3 and 5
        due.is("9: grain", x.count(2), 48);
        due.is("9: seed", x.count(3), 51);
        due.is("9: a third of the tools' fields", x.count(4), 1);
        due.is("9: gas", x.count(5), 10);
        due.is("9: nobody cold", x.count(11), 0);
        for (int f = 0; f < 3; f++) due.is("9: all know again", x.about(f, MEMORY), 9);
        due.is("9: the year", x.count(1), 2);
    }

    private static void storesAreFull() {
        LongYear x = new LongYear();
        x.year(2);
        for (int which = 0; which < 4; which++) x.store(which, 9998);
        x.family(3, 20, 9);
        x.family(2, 20, 9);
        x.family(0, 20, 9);
        x.job(0, MAKE);
        x.job(1, TEND);
        x.job(2, DIG);
        x.pass(1);
        due.is("9: tools", x.count(4), 9999);
        // 9999, less an eighth
        due.is("9: seed", x.count(3), 9999 - 1249);
        due.is("9: gas", x.count(5), 9999 - 3);
        for (int which = 0; which < 4; which++) x.store(which, 9990);
        x.pass(1);
        // full ahead of the meal: 9999 less 21, 20, 20
        due.is("9: grain", x.count(2), 9999 - 61);
        due.is("9: seed", x.count(3), 9999);
        due.is("9: tools", x.count(4), 9990 - 20);
        due.is("9: gas", x.count(5), 9999);
    }

    private static void wantAtNoon() {
        LongYear x = new LongYear();
        x.year(2);
        x.family(1, 9, 0);
        x.store(3, 9);
        due.is("9: half in dusk, all at noon", x.pass(2), 5 + 9);
        due.is("9: wanted", x.count(10), 14);
    }

    private static void undo() {
        LongYear x = new LongYear();
        due.is("10: none yet", x.undo(), NO);
        due.is("10: it counts", x.status(1), 1);
        x.family(0, 7, 5);
        x.family(4, 6, 4);
        x.store(0, 20);
        x.store(1, 80);
        long before = x.digest();
        x.pass(1);
        x.store(0, 500);
        x.store(2, 9);
        due.is("10: undone", x.undo(), 1);
        due.is("10: all as it was", x.digest(), before);
        due.is("10: no more", x.undo(), NO);
        x.pass(3);
        x.family(2, 3, 3);
        x.job(0, MAKE);
        x.rate(4);
        x.pass(2);
        int mouths = x.about(2, MOUTHS), memory = x.about(2, MEMORY);
        due.is("12: five may be undone", x.count(12), 5);
        for (int i = 0; i < 4; i++) due.is("10: undone", x.undo(), 1);
        due.is("10: the year", x.count(1), 1);
        due.is("10: she stays", x.count(6), 3);
        due.is("10: as she was in her first year", x.about(2, MOUTHS), 3);
        due.is("10: as she was in her first year", x.about(2, MEMORY), 3);
        due.holds("10: which is not as she was then", mouths != 3 && memory != 3);
        due.is("10: a job stays", x.about(0, 3), MAKE);
        due.is("10: the rate stays", x.rate(0), 4);
        due.is("10: mouths", x.about(0, MOUTHS), 6);
        due.is("10: memory", x.about(0, MEMORY), 4);
        due.is("10: wanted", x.count(10), 0);
        due.is("10: colds", x.count(11), 2);
    }

    private static void undoStepByStep() {
        LongYear x = new LongYear();
        x.family(0, 20, 9);
        x.store(0, 100);
        long[] kept = new long[10];
        for (int i = 0; i < 9; i++) {
            kept[i] = x.digest() - shareOfUndoable(x);
            x.pass(1);
        }
        due.is("10: six at most", x.count(12), 6);
        for (int i = 8; i >= 3; i--) {
            due.is("10: undone", x.undo(), 1);
            due.is("10: as ahead of YEAR " + i, x.digest() - shareOfUndoable(x), kept[i]);
        }
        due.is("10: a seventh", x.undo(), NO);
        x.pass(1);
        due.is("10: it goes on", x.undo(), 1);
        due.is("10: and back", x.count(1), 3);
    }

    /** What count(12) adds to the digest, there being one family and nothing else. */
    private static long shareOfUndoable(LongYear x) {
        long share = x.count(12);
        for (int i = 0; i < 1 + 4 + 1 + 2; i++) share *= 31;
        return share;
    }

    private static void about() {
        LongYear x = new LongYear();
        due.is("11: nobody", x.about(0, 0), BAD);
        x.family(3, 12, 7);
        x.job(0, TEND);
        due.is("11: kind", x.about(0, 0), 3);
        due.is("11: mouths", x.about(0, 1), 12);
        due.is("11: memory", x.about(0, 2), 7);
        due.is("11: job", x.about(0, 3), TEND);
        due.is("11: no such what", x.about(0, 4), BAD);
        due.is("11: no such what", x.about(0, -1), BAD);
        due.is("11: not there", x.about(1, 0), BAD);
        due.is("11: not there", x.about(-1, 0), BAD);
        due.is("11: refused", x.status(0), 5);
    }

    private static void eats() {
        LongYear x = new LongYear();
        due.is("12: nobody", x.eats(0, 0), BAD);
        for (int kind = 0; kind < 5; kind++) x.family(kind, 7, 0);
        int[] dusk = {7, 4, 7, 8, 7}, noon = {7, 7, 7, 8, 7};
        for (int kind = 0; kind < 5; kind++) {
            due.is("12: dusk", x.eats(kind, 0), dusk[kind]);
            due.is("12: an odd dusk", x.eats(kind, 1), dusk[kind]);
            due.is("12: noon", x.eats(kind, 9), noon[kind]);
            due.is("12: behind noon", x.eats(kind, 10), dusk[kind]);
            due.is("12: the last noon", x.eats(kind, 9999), noon[kind]);
        }
        due.is("12: too late a year", x.eats(0, 10000), BAD);
        due.is("12: too early a year", x.eats(0, -1), BAD);
        due.is("12: not there", x.eats(5, 0), BAD);
        due.is("12: not there", x.eats(-1, 0), BAD);
        LongYear even = new LongYear();
        even.family(1, 8, 0);
        even.family(1, 1, 0);
        due.is("12: half of an even count", even.eats(0, 0), 4);
        due.is("12: half of one, cut up", even.eats(1, 0), 1);
        even.pass(1);
        due.is("12: as it is now", even.eats(0, 0), 4);
        even.pass(1);
        due.is("12: as it is now", even.eats(0, 0), 3);
    }

    private static void fields() {
        LongYear x = new LongYear();
        due.is("13: nobody", x.fields(), 0);
        x.family(0, 20, 1);
        x.family(4, 15, 2);
        x.family(2, 9, 0);
        due.is("13: nothing to sow", x.fields(), 0);
        x.store(1, 50);
        due.is("13: nothing to sow with", x.fields(), 0);
        x.store(2, 4);
        due.is("13: by tools", x.fields(), 12);
        x.store(1, 11);
        due.is("13: by seed", x.fields(), 11);
        x.store(1, 9999);
        x.store(2, 9999);
        due.is("13: by mouths that know", x.fields(), 35);
        x.pass(1);
        due.is("13: fewer know, and are cold", x.fields(), 14);
        due.is("13: changes nothing", x.count(1), 1);
    }
}
