/** Promises 19 to 25: debts, the rate, nets, payments, reports, liars, and how they are struck. */
public final class BooksTest {
    private static final Due due = new Due("BooksTest");
    private static final int BAD = LongYear.BAD, FULL = LongYear.FULL, BAD_NET = -100000;

    public static void main(String[] args) {
        debt();
        rate();
        netWithoutRate();
        netByRate();
        eachDebtIsCut();
        cleared();
        clearedByRate();
        report();
        liars();
        liarsOfTwoSides();
        liarsWhoContradictThemselves();
        none();
        due.end();
    }

    private static LongYear families(int n) {
        LongYear x = new LongYear();
        for (int f = 0; f < n; f++) x.family(0, 1, 1);
        return x;
    }

    private static void debt() {
        LongYear x = families(3);
        due.is("19: alike", x.debt(1, 1, 5), BAD);
        due.is("19: nobody owes", x.debt(3, 0, 5), BAD);
        due.is("19: nobody owes", x.debt(-1, 0, 5), BAD);
        due.is("19: owed to nobody", x.debt(0, 3, 5), BAD);
        due.is("19: owed to nobody", x.debt(0, -1, 5), BAD);
        due.is("19: nothing", x.debt(0, 1, 0), BAD);
        due.is("19: too much", x.debt(0, 1, 1000), BAD);
        due.is("19: none yet", x.count(7), 0);
        due.is("19: the most", x.debt(0, 1, 999), 0);
        for (int d = 1; d < 8; d++) due.is("19: number", x.debt(2, 0, d), d);
        due.is("19: full", x.debt(2, 0, 1), FULL);
        due.is("19: bad ahead of full", x.debt(2, 2, 1), BAD);
        due.is("19: eight", x.count(7), 8);
        due.is("19: refused as bad", x.status(0), 8);
        due.is("19: refused as full", x.status(2), 1);
    }

    private static void rate() {
        LongYear x = new LongYear();
        due.is("20: at first", x.rate(50), 0);
        due.is("20: what it was", x.rate(0), 50);
        due.is("20: too much", x.rate(51), BAD);
        due.is("20: too little", x.rate(-1), BAD);
        due.is("20: unchanged", x.rate(1), 0);
    }

    private static void netWithoutRate() {
        LongYear x = families(3);
        due.is("21: not there", x.net(3), BAD_NET);
        due.is("21: not there", x.net(-1), BAD_NET);
        due.is("21: refused as bad", x.status(0), 2);
        due.is("21: no debts", x.net(2), 0);
        x.debt(0, 1, 40);
        x.debt(1, 2, 25);
        x.debt(0, 1, 2);
        due.is("21: owes", x.net(0), -42);
        due.is("21: both", x.net(1), 17);
        due.is("21: is owed", x.net(2), 25);
    }

    private static void netByRate() {
        LongYear x = families(2);
        x.debt(0, 1, 50);
        x.rate(3);
        // 9 YEARS till the NOON: 27 of 100 of 50 are 13 and a half
        due.is("21: nine years", x.net(1), 63);
        due.is("21: nine years", x.net(0), -63);
        x.pass(5);
        due.is("21: four years", x.net(1), 56);
        x.pass(4);
        due.is("21: it is noon", x.net(1), 50);
        x.pass(1);
        due.is("21: nine years again", x.net(1), 63);
        x.rate(50);
        due.is("21: the most of a hundred", x.net(1), 50 + 225);
        LongYear far = Due.told("year 70;family 0 1 1;family 0 1 1;debt 0 1 999;");
        far.rate(50);
        due.is("21: as much as can be", far.net(1), 999 + 34465);
        far.undo();
        far.pass(1);
        due.is("21: a year less", far.net(0), -999 - 33966);
    }

    private static void eachDebtIsCut() {
        LongYear x = families(2);
        x.year(2);
        x.family(0, 1, 1);
        x.family(0, 1, 1);
        x.rate(50);
        x.debt(0, 1, 1);
        x.debt(0, 1, 1);
        x.debt(1, 0, 3);
        // 1 and 1, not 3 together; 4, not 4 and a half
        due.is("21: each cut", x.net(0), 2);
        due.is("21: each cut", x.net(1), -2);
    }

    private static void cleared() {
        LongYear x = families(6);
        due.is("22: no debts", x.cleared(), 0);
        x.debt(0, 1, 10);
        due.is("22: one", x.cleared(), 1);
        x.debt(1, 0, 10);
        due.is("22: all is even", x.cleared(), 0);
        x.none(0);
        x.debt(0, 1, 10);
        x.debt(1, 2, 10);
        due.is("22: one between the ends", x.cleared(), 1);
        x.debt(3, 2, 5);
        // 10 and 5 owed to one
        due.is("22: two owe one", x.cleared(), 2);
        x.debt(4, 5, 7);
        due.is("22: apart from another pair", x.cleared(), 3);
        x.none(0);
        x.debt(0, 3, 6);
        x.debt(1, 4, 4);
        x.debt(2, 5, 3);
        due.is("22: three pairs", x.cleared(), 3);
        x.none(0);
        // 0 owes 5, 1 owes 4, 2 owes 1; 3 gets 3, 4 gets 2, 5 gets 5
        x.debt(0, 3, 3);
        x.debt(0, 4, 2);
        x.debt(1, 5, 4);
        x.debt(2, 5, 1);
        due.is("22: a pair and four: three and one", x.cleared(), 4);
        x.none(0);
        // 0 owes 3, 1 owes 5, 2 owes 8; 3 gets 2, 4 gets 7, 5 gets 7: no two groups but all
        x.debt(0, 3, 2);
        x.debt(0, 4, 1);
        x.debt(1, 4, 5);
        x.debt(2, 4, 1);
        x.debt(2, 5, 7);
        due.is("22: no group but all", x.cleared(), 5);
        due.is("22: nobody", new LongYear().cleared(), 0);
    }

    /** By the rate, which is cut, what was even is even no more. */
    private static void clearedByRate() {
        LongYear x = new LongYear();
        x.year(2);
        x.family(0, 1, 1);
        x.family(0, 1, 1);
        x.debt(0, 1, 2);
        x.debt(1, 0, 1);
        x.debt(1, 0, 1);
        due.is("22: even", x.cleared(), 0);
        x.rate(50);
        due.is("22: 3 to 2", x.cleared(), 1);
        x.pass(1);
        due.is("22: even at noon", x.cleared(), 0);
    }

    private static void report() {
        LongYear x = families(2);
        due.is("23: year", x.report(100, 0, 0), BAD);
        due.is("23: year", x.report(-1, 0, 0), BAD);
        due.is("23: nobody", x.report(0, 2, 0), BAD);
        due.is("23: nobody", x.report(0, -1, 0), BAD);
        due.is("23: count", x.report(0, 0, 10000), BAD);
        due.is("23: count", x.report(0, 0, -1), BAD);
        due.is("23: the most", x.report(99, 1, 9999), 0);
        due.is("23: the least", x.report(0, 0, 0), 1);
        for (int r = 2; r < 10; r++) due.is("23: number", x.report(r, 0, r), r);
        due.is("23: full", x.report(0, 0, 0), FULL);
        due.is("23: bad ahead of full", x.report(0, 5, 0), BAD);
        due.is("23: ten", x.count(8), 10);
        due.is("23: refused as bad", x.status(0), 7);
    }

    private static void liars() {
        LongYear x = families(4);
        due.is("24: what", x.liars(2), BAD);
        due.is("24: what", x.liars(-1), BAD);
        due.is("24: refused as bad", x.status(0), 2);
        due.is("24: no reports", x.liars(0), 0);
        due.is("24: no reports", x.liars(1), 0);
        x.report(5, 0, 30);
        x.report(5, 1, 30);
        x.report(6, 2, 31);
        due.is("24: other years are their own", x.liars(0), 0);
        x.report(5, 3, 29);
        due.is("24: one against two", x.liars(0), 8);
        due.is("24: but not sure", x.liars(1), 0);
        x.report(6, 3, 31);
        due.is("24: alike there", x.liars(0), 8);
        due.is("24: of one family none is sure", families(1).liars(1), 0);
        LongYear nobody = new LongYear();
        due.is("24: nobody", nobody.liars(0), 0);
        due.is("24: nobody", nobody.liars(1), 0);
    }

    private static void liarsOfTwoSides() {
        LongYear x = families(5);
        x.report(1, 3, 7);
        x.report(1, 4, 8);
        due.is("24: of like ones the least", x.liars(0), 8);
        x.report(2, 4, 1);
        x.report(2, 0, 2);
        due.is("24: one of two years", x.liars(0), 16);
        x.report(3, 1, 5);
        x.report(3, 2, 6);
        x.report(3, 0, 7);
        // without 1 and 2, or 0 and one of them, and 3 or 4: three; the least is 0, 1, 3: 4 and 2 stay
        due.is("24: three", x.liars(0), 1 + 2 + 8);
    }

    private static void liarsWhoContradictThemselves() {
        LongYear x = families(3);
        x.report(1, 2, 7);
        x.report(1, 2, 7);
        due.is("24: said twice", x.liars(1), 0);
        x.report(1, 2, 8);
        due.is("24: sure", x.liars(1), 4);
        due.is("24: and fewest", x.liars(0), 4);
        x.report(1, 0, 7);
        x.report(1, 1, 9);
        due.is("24: and another", x.liars(0), 4 + 1);
        due.is("24: sure alone", x.liars(1), 4);
    }

    private static void none() {
        LongYear x = families(2);
        x.debt(0, 1, 4);
        x.debt(0, 1, 5);
        x.report(1, 1, 1);
        x.word(1, 1, 1, 1, 1, 1);
        x.word(2, 1, 1, 1, 1, 1);
        x.word(3, 1, 1, 1, 1, 1);
        due.is("25: what", x.none(3), BAD);
        due.is("25: what", x.none(-1), BAD);
        due.is("25: refused as bad", x.status(0), 2);
        due.is("25: debts", x.none(0), 2);
        due.is("25: no debts", x.count(7), 0);
        due.is("25: owes no more", x.net(0), 0);
        due.is("25: reports stay", x.count(8), 1);
        due.is("25: reports", x.none(1), 1);
        due.is("25: words stay", x.count(9), 3);
        due.is("25: words", x.none(2), 3);
        due.is("25: none", x.none(2), 0);
        due.is("25: from the first on", x.debt(1, 0, 3), 0);
        due.is("25: from the first on", x.report(1, 0, 3), 0);
        due.is("25: from the first on", x.word(1, 0, 3, 3, 3, 3), 0);
    }
}
