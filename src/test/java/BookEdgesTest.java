/** Promises 19 to 25 where the document names an edge: each sentence on its own. */
public final class BookEdgesTest {
    private static final Due due = new Due("BookEdgesTest");
    private static final int BAD = LongYear.BAD, FULL = LongYear.FULL;

    public static void main(String[] args) {
        debtLeastAndMost();
        debtIsOfFamiliesThere();
        rateLeastAndMost();
        eachDebtIsCut();
        rateByYearsTillNoon();
        netOfAllThatCanBe();
        clearedOfFew();
        clearedOfMany();
        clearedByGroups();
        reportLeastAndMost();
        liarsOfNone();
        liarsOfOneYear();
        liarsOfSixFamilies();
        liarsOfLikeOnesTheLeast();
        sureIsInAllSets();
        noneOfEach();
        due.end();
    }

    private static LongYear families(int span, int n) {
        LongYear x = new LongYear();
        x.year(span);
        for (int f = 0; f < n; f++) x.family(0, 1, 1);
        return x;
    }

    private static void debtLeastAndMost() {
        LongYear x = families(10, 6);
        due.is("19: the least, from the first to the last", x.debt(0, 5, 1), 0);
        due.is("19: the most, from the last to the first", x.debt(5, 0, 999), 1);
        due.is("19: nothing", x.debt(0, 5, 0), BAD);
        due.is("19: too much", x.debt(0, 5, 1000), BAD);
        for (int f = 0; f < 6; f++) due.is("19: alike", x.debt(f, f, 5), BAD);
        due.is("19: two", x.count(7), 2);
        due.is("21: the first", x.net(0), 998);
        due.is("21: the last", x.net(5), -998);
        due.is("21: who owes nothing", x.net(3), 0);
        for (int d = 2; d < 8; d++) due.is("19: its number", x.debt(1, 2, 3), d);
        due.is("19: a ninth", x.debt(1, 2, 3), FULL);
        due.is("19: alike goes ahead", x.debt(2, 2, 3), BAD);
        due.is("19: the eight stay", x.net(1), -18);
    }

    private static void debtIsOfFamiliesThere() {
        LongYear x = families(10, 1);
        due.is("19: no other one", x.debt(0, 1, 5), BAD);
        due.is("19: no other one", x.debt(1, 0, 5), BAD);
        x.family(0, 1, 1);
        due.is("19: now she is there", x.debt(0, 1, 5), 0);
        due.is("19: nobody", new LongYear().debt(0, 1, 5), BAD);
    }

    private static void rateLeastAndMost() {
        LongYear x = families(2, 2);
        x.debt(0, 1, 100);
        due.is("20: 0 at first", x.rate(50), 0);
        due.is("21: half of it more", x.net(1), 150);
        due.is("20: too much", x.rate(51), BAD);
        due.is("20: too little", x.rate(-1), BAD);
        due.is("20: it stays", x.net(1), 150);
        due.is("20: what it was", x.rate(0), 50);
        due.is("21: nothing more", x.net(1), 100);
        due.is("20: what it was", x.rate(1), 0);
        due.is("21: one of 100", x.net(1), 101);
    }

    /** One YEAR till the NOON: of 100 one, of 99 nothing. */
    private static void eachDebtIsCut() {
        int[][] more = {{1, 0}, {99, 0}, {100, 1}, {199, 1}, {200, 2}, {999, 9}};
        for (int[] pair : more) {
            LongYear x = families(2, 2);
            x.rate(1);
            x.debt(1, 0, pair[0]);
            due.is("21: one of 100 of " + pair[0], x.net(0), pair[0] + pair[1]);
            due.is("21: as much less", x.net(1), -pair[0] - pair[1]);
        }
        LongYear each = families(2, 2);
        each.rate(1);
        for (int d = 0; d < 8; d++) each.debt(0, 1, 99);
        due.is("21: each cut, not all together", each.net(1), 8 * 99);
        LongYear both = families(2, 2);
        both.rate(50);
        both.debt(0, 1, 3);
        both.debt(1, 0, 1);
        // 4 and 1
        due.is("21: cut on both sides", both.net(1), 3);
    }

    private static void rateByYearsTillNoon() {
        for (int span : new int[] {2, 3, 10, 70}) {
            LongYear x = families(span, 2);
            x.debt(0, 1, 100);
            x.rate(7);
            for (int y = 0; y <= span; y++) {
                int till = y == span ? span - 1 : span - 1 - y;
                due.is("21: in YEAR " + y + " of " + span, x.net(1), 100 + 7 * till);
                x.pass(1);
            }
        }
    }

    private static void netOfAllThatCanBe() {
        LongYear x = families(70, 2);
        x.rate(50);
        for (int d = 0; d < 8; d++) x.debt(0, 1, 999);
        // 69 times 50 of 100 of 999 are 34465 and a half
        due.is("21: eight of the most", x.net(1), 8 * (999 + 34465));
        due.is("21: eight of the most are owed", x.net(0), -8 * (999 + 34465));
        due.is("22: one payment", x.cleared(), 1);
        due.is("21: nobody there", x.net(2), -100000);
        due.is("21: nobody there", x.net(-1), -100000);
        due.is("21: two were refused", x.status(0), 2);
    }

    private static void clearedOfFew() {
        due.is("22: nobody", new LongYear().cleared(), 0);
        due.is("22: one alone", families(10, 1).cleared(), 0);
        LongYear x = families(10, 2);
        due.is("22: no DEBTS", x.cleared(), 0);
        x.debt(0, 1, 1);
        due.is("22: one", x.cleared(), 1);
        x.debt(1, 0, 2);
        due.is("22: one the other way", x.cleared(), 1);
        x.debt(0, 1, 1);
        due.is("22: all NETS are 0", x.cleared(), 0);
    }

    private static void clearedOfMany() {
        LongYear x = families(10, 6);
        // 1, 2, 4, 8, 16 owed to the last: no fewer than five
        for (int f = 0; f < 5; f++) x.debt(f, 5, 1 << f);
        due.is("22: five owe one", x.cleared(), 5);
        x.none(0);
        for (int f = 0; f < 5; f++) x.debt(5, f, 1 << f);
        due.is("22: one owes five", x.cleared(), 5);
        x.none(0);
        for (int f = 0; f < 6; f++) x.debt(f, (f + 1) % 6, 7);
        due.is("22: round about", x.cleared(), 0);
        x.none(0);
        for (int f = 0; f < 5; f++) x.debt(f, f + 1, 7);
        due.is("22: a chain", x.cleared(), 1);
    }

    private static void clearedByGroups() {
        LongYear x = families(10, 6);
        x.debt(0, 1, 3);
        x.debt(2, 3, 4);
        x.debt(4, 5, 5);
        due.is("22: three pairs", x.cleared(), 3);
        x.debt(0, 2, 1);
        // NETS -4, 3, -3, 4, -5, 5
        due.is("22: other pairs", x.cleared(), 3);
        x.debt(0, 4, 1);
        // NETS -5, 3, -3, 4, -4, 5
        due.is("22: other pairs still", x.cleared(), 3);
        x.none(0);
        x.debt(0, 2, 1);
        x.debt(1, 2, 2);
        x.debt(3, 5, 4);
        x.debt(4, 5, 8);
        due.is("22: two of three", x.cleared(), 4);
        x.none(0);
        // NETS -6, -5, 11, -7, -1, 8: two of three, or none
        x.debt(0, 5, 6);
        x.debt(1, 2, 5);
        x.debt(3, 2, 6);
        x.debt(3, 5, 1);
        x.debt(4, 5, 1);
        due.is("22: by NETS, not by DEBTS", x.cleared(), 4);
    }

    private static void reportLeastAndMost() {
        LongYear x = families(10, 6);
        due.is("23: the least of all", x.report(0, 0, 0), 0);
        due.is("23: the most of all", x.report(99, 5, 9999), 1);
        due.is("23: YEAR 100", x.report(100, 0, 0), BAD);
        due.is("23: YEAR -1", x.report(-1, 0, 0), BAD);
        due.is("23: FAMILY 6", x.report(0, 6, 0), BAD);
        due.is("23: FAMILY -1", x.report(0, -1, 0), BAD);
        due.is("23: 10000", x.report(0, 0, 10000), BAD);
        due.is("23: -1", x.report(0, 0, -1), BAD);
        due.is("23: two", x.count(8), 2);
        for (int r = 2; r < 10; r++) due.is("23: its number", x.report(50, r % 6, 70), r);
        due.is("23: an eleventh", x.report(50, 0, 70), FULL);
        due.is("24: all alike", x.liars(0), 0);
        due.is("36: six were BAD", x.status(0), 6);
    }

    private static void liarsOfNone() {
        for (int n = 0; n <= 6; n++) {
            due.is("24: no REPORTS of " + n, families(10, n).liars(0), 0);
            due.is("24: none is sure of " + n, families(10, n).liars(1), 0);
        }
        LongYear x = families(10, 2);
        due.is("24: what", x.liars(2), BAD);
        due.is("24: what", x.liars(-1), BAD);
    }

    private static void liarsOfOneYear() {
        LongYear x = families(10, 2);
        x.report(7, 0, 9999);
        due.is("24: one REPORT", x.liars(0), 0);
        x.report(7, 1, 9999);
        due.is("24: alike", x.liars(0), 0);
        x.report(8, 1, 9998);
        due.is("24: of another YEAR", x.liars(0), 0);
        x.report(8, 0, 9999);
        due.is("24: apart by one", x.liars(0), 1);
        due.is("24: either, so none is sure", x.liars(1), 0);
        x.none(1);
        due.is("24: struck", x.liars(0), 0);
    }

    private static void liarsOfSixFamilies() {
        LongYear x = families(10, 6);
        for (int f = 0; f < 6; f++) x.report(1, f, f);
        due.is("24: all but one, the least", x.liars(0), 31);
        due.is("24: none is sure", x.liars(1), 0);
        for (int f = 0; f < 4; f++) x.report(1, f, 9);
        due.is("24: four said two things, and one of two", x.liars(0), 31);
        due.is("24: four are sure", x.liars(1), 15);
        x.none(1);
        for (int f = 1; f < 6; f++) {
            x.report(2, f, 1);
            x.report(2, f, 2);
        }
        due.is("24: five said two things", x.liars(0), 62);
        due.is("24: they are sure", x.liars(1), 62);
        x.none(1);
        x.report(99, 5, 0);
        x.report(99, 5, 9999);
        due.is("24: the last alone", x.liars(0), 32);
        due.is("24: the last is sure", x.liars(1), 32);
    }

    private static void liarsOfLikeOnesTheLeast() {
        LongYear x = families(10, 6);
        x.report(1, 5, 3);
        x.report(1, 4, 4);
        due.is("24: 16, not 32", x.liars(0), 16);
        x.report(1, 3, 3);
        x.report(1, 2, 4);
        // without 2 and 4, or without 3 and 5
        due.is("24: two against two", x.liars(0), 4 + 16);
        x.report(1, 1, 3);
        due.is("24: two against three", x.liars(0), 4 + 16);
        x.none(1);
        x.report(1, 0, 3);
        x.report(1, 1, 4);
        x.report(2, 0, 3);
        x.report(2, 2, 4);
        due.is("24: one is fewer than two", x.liars(0), 1);
    }

    /** By sets that are not the fewest, too: one of two need not be the one, if the other two can be. */
    private static void sureIsInAllSets() {
        LongYear x = families(10, 3);
        x.report(1, 0, 3);
        x.report(1, 1, 4);
        x.report(2, 0, 3);
        x.report(2, 2, 4);
        due.is("24: the fewest", x.liars(0), 1);
        due.is("24: without 1 and 2 it is so, too", x.liars(1), 0);
        x.report(3, 0, 5);
        x.report(3, 0, 6);
        due.is("24: now she is in all", x.liars(1), 1);
    }

    private static void noneOfEach() {
        for (int what = 0; what < 3; what++) {
            LongYear x = Lumps.full();
            int[] there = {8, 10, 4};
            due.is("25: how many there were", x.none(what), there[what]);
            for (int other = 0; other < 3; other++) {
                due.is("25: those alone", x.count(7 + other), other == what ? 0 : there[other]);
            }
            due.is("25: none now", x.none(what), 0);
        }
        LongYear x = Lumps.full();
        due.is("25: what", x.none(3), BAD);
        due.is("25: what", x.none(-1), BAD);
        x.none(0);
        for (int f = 0; f < 6; f++) due.is("25: no NET", x.net(f), 0);
        due.is("25: the RATE stays", x.rate(0), 50);
    }
}
