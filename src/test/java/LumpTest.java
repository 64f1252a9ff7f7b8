/** Promises 1 to 8: a lump as it is told, by calls and by a text. */
public final class LumpTest {
    private static final Due due = new Due("LumpTest");
    private static final int BAD = LongYear.BAD, FULL = LongYear.FULL;

    public static void main(String[] args) {
        newObject();
        year();
        store();
        family();
        job();
        typeAndClear();
        readWhole();
        readTokens();
        readFaults();
        readRanges();
        readCounts();
        readChangesNothingAtAFault();
        readTakesThePlace();
        due.end();
    }

    private static void newObject() {
        LongYear x = new LongYear();
        due.is("1: Y", x.count(0), 10);
        for (int what = 1; what <= 13; what++) due.is("1: count " + what, x.count(what), 0);
        for (int what = 0; what <= 2; what++) due.is("1: status " + what, x.status(what), 0);
        due.is("1: above", x.part(0), 0);
        due.is("1: below", x.part(1), 1);
        due.is("1: rate", x.rate(0), 0);
        due.is("1: image 0", x.from(0), LongYear.NO);
        due.is("1: image 1", x.from(1), LongYear.NO);
    }

    private static void year() {
        LongYear x = Due.told("year 9;store 0 9;store 1 50;store 2 50;store 3 50;family 0 20 1;family 0 2 2;debt 0 1 5;");
        x.report(1, 1, 1);
        x.word(1, 2, 3, 4, 5, 6);
        x.rate(7);
        x.chance(0, 0);
        x.pass(3);
        x.image(1);
        int bytes = x.count(13);
        due.is("2: too few", x.year(1), BAD);
        due.is("2: too many", x.year(71), BAD);
        due.is("2: far off", x.year(Integer.MIN_VALUE), BAD);
        due.is("2: nothing changed", x.count(1), 3);
        due.holds("2: all stores have some", x.count(3) > 0 && x.count(4) > 0 && x.count(5) > 0);
        due.holds("2: some wanted", x.count(10) > 0);
        due.is("2: the least", x.year(2), 9);
        for (int what = 1; what <= 12; what++) due.is("2: count " + what, x.count(what), 0);
        due.is("2: the text stays", x.count(13), bytes);
        due.is("2: the fraction stays", x.part(0), 1);
        due.is("2: status stays", x.status(0), 3);
        due.is("2: the rate is as at first", x.rate(0), 0);
        due.is("2: nothing to undo", x.undo(), LongYear.NO);
        due.is("2: the most", x.year(70), 2);
        due.is("2: an image stays", x.from(1), 1);
        due.is("2: as the image was", x.count(0), 9);
        due.is("2: with its families", x.count(6), 2);
    }

    private static void store() {
        LongYear x = new LongYear();
        for (int which = 0; which < 4; which++) due.is("3: at first", x.store(which, 11 * which + 1), 0);
        for (int which = 0; which < 4; which++) due.is("3: kept", x.count(2 + which), 11 * which + 1);
        due.is("3: what it was", x.store(2, 9999), 23);
        due.is("3: the most", x.store(2, 0), 9999);
        due.is("3: none", x.count(4), 0);
        due.is("3: no such store", x.store(4, 0), BAD);
        due.is("3: no such store", x.store(-1, 0), BAD);
        due.is("3: more than there can be", x.store(0, 10000), BAD);
        due.is("3: less than none", x.store(0, -1), BAD);
        due.is("3: unchanged", x.count(2), 1);
        due.is("3: refused", x.status(0), 4);
    }

    private static void family() {
        LongYear x = new LongYear();
        due.is("4: kind", x.family(5, 1, 0), BAD);
        due.is("4: kind", x.family(-1, 1, 0), BAD);
        due.is("4: no mouths", x.family(0, 0, 0), BAD);
        due.is("4: too many mouths", x.family(0, 21, 0), BAD);
        due.is("4: memory", x.family(0, 1, -1), BAD);
        due.is("4: memory", x.family(0, 1, 10), BAD);
        due.is("4: nobody yet", x.count(6), 0);
        for (int kind = 0; kind < 5; kind++) {
            due.is("4: number", x.family(kind, 4 * kind + 1, 2 * kind + 1), kind);
        }
        due.is("4: the last", x.family(4, 20, 0), 5);
        due.is("4: bad ahead of full", x.family(5, 20, 0), BAD);
        due.is("4: full", x.family(4, 20, 0), FULL);
        due.is("4: full counts", x.status(2), 1);
        due.is("4: six", x.count(6), 6);
        for (int kind = 0; kind < 5; kind++) {
            due.is("4: kind", x.about(kind, 0), kind);
            due.is("4: mouths", x.about(kind, 1), 4 * kind + 1);
            due.is("4: memory", x.about(kind, 2), 2 * kind + 1);
            due.is("4: rest at first", x.about(kind, 3), 0);
        }
    }

    private static void job() {
        LongYear x = new LongYear();
        due.is("5: nobody", x.job(0, 0), BAD);
        x.family(0, 1, 1);
        x.family(0, 1, 1);
        due.is("5: at first", x.job(1, 4), 0);
        due.is("5: what it was", x.job(1, 3), 4);
        due.is("5: the other's own", x.about(0, 3), 0);
        due.is("5: rest is a job", x.job(1, 0), 3);
        due.is("5: what it was", x.job(1, 3), 0);
        due.is("5: not there", x.job(2, 0), BAD);
        due.is("5: not there", x.job(-1, 0), BAD);
        due.is("5: no such job", x.job(1, 5), BAD);
        due.is("5: no such job", x.job(1, -1), BAD);
        due.is("5: unchanged", x.about(1, 3), 3);
        x.year(10);
        x.family(0, 1, 1);
        x.family(0, 1, 1);
        due.is("5: a new family rests", x.about(1, 3), 0);
    }

    private static void typeAndClear() {
        LongYear x = new LongYear();
        due.is("6: below a byte", x.type(-1), BAD);
        due.is("6: above a byte", x.type(128), BAD);
        due.is("6: the least", x.type(0), 1);
        due.is("6: the most", x.type(127), 2);
        for (int i = 3; i <= 150; i++) due.is("6: how many", x.type('a'), i);
        due.is("6: full", x.type('a'), FULL);
        due.is("6: bad ahead of full", x.type(128), BAD);
        due.is("6: unchanged", x.count(13), 150);
        due.is("7: how many there were", x.clear(), 150);
        due.is("7: empty", x.clear(), 0);
        due.is("7: counted", x.count(13), 0);
        due.is("6: from the first on", x.type('a'), 1);
        due.is("6: refused as bad", x.status(0), 3);
        due.is("6: refused as full", x.status(2), 1);
    }

    private static void readWhole() {
        LongYear x = new LongYear();
        String text = "year 7;store 3 9999;store 3 4;family 4 20 9;family 1 1 0;job 1 4;debt 0 1 999;debt 1 0 1;";
        due.is("8: items", Due.read(x, text), 8);
        due.is("8: Y", x.count(0), 7);
        due.is("8: a store told again", x.count(5), 4);
        due.is("8: kind", x.about(0, 0), 4);
        due.is("8: mouths", x.about(0, 1), 20);
        due.is("8: memory", x.about(0, 2), 9);
        due.is("8: job", x.about(0, 3), 0);
        due.is("8: another job", x.about(1, 3), 4);
        due.is("8: debts", x.count(7), 2);
        due.is("8: net", x.net(1), 998);
        due.is("8: the text stays", x.count(13), text.length());
        due.is("8: read again", x.read(), 8);
        due.is("8: not a refusal", x.status(0) + x.status(1) + x.status(2), 0);
    }

    private static void readTokens() {
        LongYear x = new LongYear();
        due.is("8: no blanks", Due.read(x, "year5;store0 0001;"), 2);
        due.is("8: four figures with naughts", x.count(2), 1);
        due.is("8: blanks all over", Due.read(x, "   year   0070  ;  "), 1);
        due.is("8: blanks all over", x.count(0), 70);
        due.is("8: two numbers grown together", Due.read(x, "year 5;store 01;"), -10 - 15);
        due.is("8: two words grown together", Due.read(x, "yearyear 5;"), -10);
        due.is("8: a word behind a number", Due.read(x, "year 5store"), -10 - 6);
        due.is("8: long ahead", Due.read(x, "year 55;        store 0 1;"), 2);
        due.is("8: nothing of a longer text", Due.read(x, "year 5"), -16);
        due.is("8: nothing of a longer text", Due.read(x, "year 5;"), 1);
        due.is("8: nothing of a longer text", Due.read(x, ""), -10);
    }

    private static void readFaults() {
        LongYear x = new LongYear();
        due.is("8: empty", Due.read(x, ""), -10);
        due.is("8: blanks alone", Due.read(x, "   "), -13);
        due.is("8: a word alone", Due.read(x, "year"), -14);
        due.is("8: a word cut short", Due.read(x, "yea"), -10);
        due.is("8: no end", Due.read(x, "year 5"), -16);
        due.is("8: no end but blanks", Due.read(x, "year 5  "), -18);
        due.is("8: an item cut short", Due.read(x, "year 5;family 1"), -10 - 15);
        due.is("8: no such word", Due.read(x, "year 5; years 5;"), -18);
        due.is("8: a large letter", Due.read(x, "Year 5;"), -10);
        due.is("8: a byte that is none", Due.read(x, "year 5;\n"), -17);
        due.is("8: a byte that is none", Due.read(x, "year -5;"), -15);
        due.is("8: an end alone", Due.read(x, ";"), -10);
        due.is("8: two ends", Due.read(x, "year 5;;"), -17);
        due.is("8: a number first", Due.read(x, "5 year;"), -10);
        due.is("8: a word for a number", Due.read(x, "year five;"), -15);
        due.is("8: an end for a number", Due.read(x, "year ;"), -15);
        due.is("8: a number too many", Due.read(x, "year 5 5;"), -17);
        due.is("8: five figures", Due.read(x, "year 00005;"), -15);
        due.is("8: five figures at the end", Due.read(x, "year 5;store 0 10000"), -10 - 15);
        due.is("8: year again", Due.read(x, "year 5; year 5;"), -18);
        due.is("8: ahead of year", Due.read(x, "  store 0 1; year 5;"), -12);
    }

    private static void readRanges() {
        String year = "year 5;", two = year + "family 0 1 0;family 0 1 0;";
        faultAt("year 1;", 5);
        faultAt("year 71;", 5);
        wellRead("year 2;");
        faultAt(year + "store 4 0;", 13);
        wellRead(year + "store 3 9999;");
        faultAt(year + "store 3 -;", 15);
        wellRead(two + "store 0 0;family 0 1 0;job 0 0;debt 0 1 1;");
        faultAt(year + "family 5 1 0;", 14);
        faultAt(year + "family 0 0 0;", 16);
        faultAt(year + "family 0 21 0;", 16);
        faultAt(year + "family 0 1 10;", 18);
        wellRead(year + "family 4 20 9;");
        faultAt(year + "job 0 0;", 11);
        faultAt(two + "job 2 0;", 37);
        faultAt(two + "job 1 5;", 39);
        wellRead(two + "job 1 4;");
        faultAt(year + "debt 0 0 1;", 12);
        faultAt(two + "debt 2 0 1;", 38);
        faultAt(two + "debt 0 2 1;", 40);
        faultAt(two + "debt 1 1 1;", 40);
        faultAt(two + "debt 0 1 0;", 42);
        faultAt(two + "debt 0 1 1000;", 42);
        wellRead(two + "debt 1 0 999;");
    }

    private static void faultAt(String text, int place) {
        due.is("8: " + text, Due.read(new LongYear(), text), -10 - place);
    }

    private static void wellRead(String text) {
        due.holds("8: " + text, Due.read(new LongYear(), text) > 0);
    }

    private static void readCounts() {
        String six = "year 5;" + "family0 1 0;".repeat(6);
        wellRead(six);
        faultAt(six + "family", 7 + 6 * 12);
        faultAt(six + " family 0 1 0;", 8 + 6 * 12);
        String eight = "year 5;" + "family0 1 0;".repeat(2) + "debt0 1 1;".repeat(8);
        wellRead(eight);
        faultAt(eight + "debt 0 1 1;", 7 + 2 * 12 + 8 * 10);
    }

    private static void readChangesNothingAtAFault() {
        LongYear x = Due.told("year 6;store 0 9;family 0 2 3;family 0 2 3;debt 0 1 4;");
        x.rate(3);
        x.pass(1);
        x.clear();
        Due.type(x, "year 8;store 0 1;family 1 1 1;oops");
        long digest = x.digest();
        due.is("8: a fault", x.read(), -10 - 30);
        due.is("8: all stays", x.digest(), digest);
        x.clear();
        Due.type(x, "year 8;family 1 1 1;family 1 1 1;debt 0 1 9;oops");
        digest = x.digest();
        due.is("8: another", x.read(), -10 - 44);
        due.is("8: all stays", x.digest(), digest);
        due.is("8: what may be undone, too", x.undo(), 1);
        due.is("8: behind faults", Due.read(x, "year 8;"), 1);
        due.is("8: nothing of them", x.count(7), 0);
    }

    private static void readTakesThePlace() {
        LongYear x = new LongYear();
        x.store(1, 77);
        x.family(0, 3, 3);
        x.family(1, 4, 4);
        x.debt(0, 1, 9);
        x.rate(9);
        x.report(1, 1, 1);
        x.word(1, 1, 1, 1, 1, 1);
        x.chance(0, 0);
        x.undo();
        x.pass(4);
        x.image(0);
        due.is("8: read", Due.read(x, "year 5;"), 1);
        due.is("8: Y", x.count(0), 5);
        for (int what = 1; what <= 12; what++) due.is("8: count " + what, x.count(what), 0);
        due.is("8: rate 0", x.rate(0), 0);
        due.is("8: the fraction stays", x.part(0), 1);
        due.is("8: status stays", x.status(1), 1);
        due.is("8: nothing to undo", x.undo(), LongYear.NO);
        due.is("8: an image stays", x.from(0), 1);
        due.is("8: as it was", x.count(1), 4);
    }
}
