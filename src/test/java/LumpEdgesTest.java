/** Promises 1 to 8 where the document names an edge: each sentence on its own. */
public final class LumpEdgesTest {
    private static final Due due = new Due("LumpEdgesTest");
    private static final int NO = LongYear.NO, BAD = LongYear.BAD;
    private static final String TWO = "year 5;family 0 1 0;family 0 1 0;";

    public static void main(String[] args) {
        newObjectIsAsTold();
        yearIsAllAsAtFirst();
        yearLeavesFour();
        yearOfTheSameLength();
        noonIsTheLastYear();
        storesAreEachTheirOwn();
        familyAtItsEdges();
        jobAtItsEdges();
        typedBytes();
        textIsCutAtEveryPlace();
        byteThatBeginsNone();
        bytesBetweenTokens();
        blanksAnywhere();
        numbersOfFigures();
        numbersOfEachItem();
        wordsThatAreNone();
        tokenInPlaceOfAnother();
        yearOnceAndFirst();
        familyNotThereYet();
        tooManyOfThem();
        aWholeText();
        readIsAllNew();
        due.end();
    }

    private static void newObjectIsAsTold() {
        LongYear x = new LongYear();
        due.is("1: 10 at first", x.count(0), 10);
        due.is("1: nobody", x.about(0, 0), BAD);
        due.is("1: no DEBTS to strike", x.none(0), 0);
        due.is("1: no REPORTS", x.none(1), 0);
        due.is("1: no WORDS", x.none(2), 0);
        due.is("1: an empty TEXT", x.clear(), 0);
        due.is("1: which ends too early", x.read(), -10);
        due.is("1: one refused", x.status(0), 1);
        due.is("1: and no more", x.status(1) + x.status(2), 0);
    }

    /** As far as can be seen it is a new object, whatever was there. */
    private static void yearIsAllAsAtFirst() {
        LongYear x = Lumps.full(), y = new LongYear();
        x.clear();
        x.year(10);
        y.chance(0, 0);
        x.chance(0, 0);
        due.is("2: all as at first", x.digest(), y.digest());
        due.is("2: nothing to undo", x.undo(), NO);
        for (LongYear one : new LongYear[] {x, y}) {
            one.family(3, 5, 5);
            one.family(0, 6, 6);
            one.debt(0, 1, 100);
            one.report(0, 1, 2);
            one.word(1, 1, 1, 1, 1, 1);
            one.pass(2);
        }
        due.is("2: it goes on as a new one", x.digest(), y.digest());
        due.is("2: REST at first", x.about(1, 3), 0);
        due.is("2: RATE 0", x.net(1), 100);
        due.is("2: what may be undone is new", x.count(12), 2);
        due.is("2: undone", x.undo() + x.undo(), 2);
        due.is("2: no further", x.undo(), NO);
    }

    private static void yearLeavesFour() {
        LongYear x = Lumps.rich();
        x.undo();
        x.type(200);
        int bytes = x.count(13), bads = x.status(0), noes = x.status(1);
        due.is("2: what Y was", x.year(70), 6);
        due.is("2: THE TEXT stays", x.count(13), bytes);
        due.is("2: THE FRACTION stays", x.part(0), 3);
        due.is("2: below, too", x.part(1), 5);
        due.is("2: STATUS stays", x.status(0), bads);
        due.is("2: STATUS stays", x.status(1), noes);
        due.is("2: THE TEXT is read as it was", x.read(), 3);
        due.is("2: IMAGE 0 stays", x.from(0), 1);
        due.is("2: as it was kept", x.count(0), 6);
        due.is("2: with three YEARS to undo", x.count(12), 3);
        due.is("2: no IMAGE 1 comes of it", x.from(1), NO);
    }

    private static void yearOfTheSameLength() {
        LongYear x = Lumps.rich();
        due.is("2: 6 was", x.year(6), 6);
        for (int what = 1; what <= 12; what++) due.is("2: the same Y is new, too: count " + what, x.count(what), 0);
    }

    /** A SLEEPER eats all MOUTHS in a NOON, half in a DUSK. */
    private static void noonIsTheLastYear() {
        for (int y : new int[] {2, 3, 10, 69, 70}) {
            LongYear x = new LongYear();
            x.year(y);
            x.family(1, 20, 0);
            due.is("2: YEAR 0 of " + y, x.eats(0, 0), 10);
            due.is("2: the last but one of " + y, x.eats(0, y - 2), 10);
            due.is("2: Y less 1 is NOON " + y, x.eats(0, y - 1), 20);
            due.is("2: then DUSK " + y, x.eats(0, y), 10);
            due.is("2: twice Y less 1 is NOON " + y, x.eats(0, 2 * y - 1), 20);
            due.is("2: then DUSK " + y, x.eats(0, 2 * y), 10);
        }
    }

    private static void storesAreEachTheirOwn() {
        for (int which = 0; which < 4; which++) {
            LongYear x = new LongYear();
            due.is("3: 0 at first", x.store(which, 9999), 0);
            for (int what = 2; what <= 5; what++) due.is("3: alone", x.count(what), what == 2 + which ? 9999 : 0);
            due.is("3: the most there can be", x.store(which, 0), 9999);
            due.is("3: none", x.store(which, 1), 0);
            due.is("3: what it was", x.store(which, 1), 1);
        }
    }

    private static void familyAtItsEdges() {
        for (int kind : new int[] {0, 4}) {
            for (int mouths : new int[] {1, 20}) {
                for (int memory : new int[] {0, 9}) {
                    LongYear x = new LongYear();
                    due.is("4: the first is 0", x.family(kind, mouths, memory), 0);
                    due.is("4: KIND", x.about(0, 0), kind);
                    due.is("4: MOUTHS", x.about(0, 1), mouths);
                    due.is("4: MEMORY", x.about(0, 2), memory);
                    due.is("4: REST at first", x.about(0, 3), 0);
                }
            }
        }
    }

    private static void jobAtItsEdges() {
        LongYear x = Lumps.full();
        for (int f : new int[] {0, 5}) {
            int was = x.about(f, 3);
            due.is("5: what it was", x.job(f, 4), was);
            due.is("5: the most", x.job(f, 0), 4);
            due.is("5: the least", x.about(f, 3), 0);
        }
        due.is("5: others keep theirs", x.about(1, 3), 1);
    }

    private static void typedBytes() {
        LongYear x = new LongYear();
        for (int c = 0; c <= 127; c++) due.is("6: byte " + c, x.type(c), c + 1);
        due.is("7: how many it had", x.clear(), 128);
        due.is("7: THE TEXT is empty", x.read(), -10);
        Due.type(x, "year 2;");
        due.is("7: nothing of it is left", x.read(), 1);
    }

    /** Cut short at any place a text ends too early, or within a word that is none so far; but not behind an ITEM. */
    private static void textIsCutAtEveryPlace() {
        String text = "year 22 ; store 3 40;family 4 20 9 ;";
        for (int end = 0; end <= text.length(); end++) {
            LongYear x = new LongYear();
            due.is("8: cut to " + end, Due.read(x, text.substring(0, end)), cutAt(text, end));
        }
    }

    private static int cutAt(String text, int end) {
        if (end == 9 || end == 10) return 1;
        if (end == 21) return 2;
        if (end == 36) return 3;
        boolean inWord = end > 0 && isLetter(text.charAt(end - 1)) && isLetter(text.charAt(end));
        return inWord ? -10 - wordStart(text, end) : -10 - end;
    }

    private static int wordStart(String text, int end) {
        int start = end;
        while (start > 0 && isLetter(text.charAt(start - 1))) start--;
        return start;
    }

    private static boolean isLetter(char c) {
        return c >= 'a' && c <= 'z';
    }

    private static void byteThatBeginsNone() {
        for (int c = 0; c <= 127; c++) {
            boolean blank = c == ' ';
            due.is("8: first byte " + c, readWith("", c, "year 5;"), blank ? 1 : -10);
            due.is("8: byte behind an ITEM " + c, readWith("year 5;", c, "store 0 1;"), blank ? 2 : -10 - 7);
            due.is("8: last byte " + c, readWith("year 5;", c, ""), blank ? 1 : -10 - 7);
        }
    }

    private static void bytesBetweenTokens() {
        for (int c = 0; c <= 127; c++) {
            boolean blank = c == ' ', figure = c >= '0' && c <= '9';
            // a letter makes a longer word that is none, a figure a number ahead of another
            int behindWord = blank ? 1 : isLetter((char) c) ? -10 : figure ? behindFigure(c) : -10 - 4;
            due.is("8: byte behind year " + c, readWith("year", c, " 5;"), behindWord);
            int behindNumber = blank || c >= '0' && c <= '9' ? 1 : c == ';' ? -10 - 8 : -10 - 7;
            due.is("8: byte behind a number " + c, readWith("year 05", c, ";"), behindNumber);
        }
    }

    /** "year", a figure, " 5;": 0 and 1 are too few YEARS, else 5 is a number too many. */
    private static int behindFigure(int c) {
        return c < '2' ? -10 - 4 : -10 - 6;
    }

    private static int readWith(String ahead, int c, String behind) {
        LongYear x = new LongYear();
        Due.type(x, ahead);
        x.type(c);
        Due.type(x, behind);
        return x.read();
    }

    private static void blanksAnywhere() {
        String[] tokens = {"year", "9", ";", "store", "1", "7", ";", "family", "0", "2", "3", ";", "job", "0", "4", ";"};
        for (int place = 0; place <= tokens.length; place++) {
            for (int blanks = 0; blanks <= 3; blanks += 3) {
                LongYear x = new LongYear();
                due.is("8: blanks at " + place, Due.read(x, joined(tokens, place, blanks)), 4);
                due.is("8: read well", x.count(3) * 100 + x.about(0, 3), 704);
            }
        }
        due.is("8: needed between two words", Due.read(new LongYear(), "yearstore 9;"), -10);
        due.is("8: needed between two numbers", Due.read(new LongYear(), "year 9;store 17;"), -10 - 13);
        due.is("8: a tab is none", Due.read(new LongYear(), "year\t9;"), -10 - 4);
    }

    private static String joined(String[] tokens, int place, int blanks) {
        StringBuilder text = new StringBuilder();
        for (int i = 0; i <= tokens.length; i++) {
            boolean needed = i > 0 && i < tokens.length && isFigure(tokens[i - 1]) && isFigure(tokens[i]);
            text.append(" ".repeat(i == place ? Math.max(blanks, needed ? 1 : 0) : needed ? 1 : 0));
            if (i < tokens.length) text.append(tokens[i]);
        }
        return text.toString();
    }

    private static boolean isFigure(String token) {
        return token.charAt(0) <= '9' && token.charAt(0) >= '0';
    }

    private static void numbersOfFigures() {
        readsTo("year 5;store 0 0;", 2);
        readsTo("year 5;store 0 0000;", 2);
        readsTo("year 5;store 0 9999;", 2);
        readsTo("year 5;store 0 10000;", -10 - 15);
        readsTo("year 5;store 0 00000;", -10 - 15);
        readsTo("year 5;store 0 00001;", -10 - 15);
        readsTo("year 5;store 0 123456789012345678901234567890;", -10 - 15);
        readsTo("year 5;store 0 4294967296;", -10 - 15);
        readsTo("year 0070;", 1);
        readsTo("year 00070;", -10 - 5);
        readsTo("12345", -10);
        readsTo("year 5;12345", -10 - 7);
        readsTo("year 5 12345", -10 - 7);
        readsTo("year 12345", -10 - 5);
        readsTo("year 5;store 0000 9;", 2);
        readsTo("year 5;store 00000 9;", -10 - 13);
    }

    private static void readsTo(String text, int answer) {
        due.is("8: " + text, Due.read(new LongYear(), text), answer);
    }

    /** The last number that is taken and the first that is not, for each number of each ITEM. */
    private static void numbersOfEachItem() {
        atItsEdges("year ", ";", 2, 70);
        atItsEdges(TWO + "store ", " 5;", 0, 3);
        atItsEdges(TWO + "store 3 ", ";", 0, 9999);
        atItsEdges(TWO + "family ", " 1 1;", 0, 4);
        atItsEdges(TWO + "family 4 ", " 1;", 1, 20);
        atItsEdges(TWO + "family 4 20 ", ";", 0, 9);
        atItsEdges(TWO + "job ", " 1;", 0, 1);
        atItsEdges(TWO + "job 1 ", ";", 0, 4);
        atItsEdges(TWO + "family 0 1 0;debt ", " 1 1;", 0, 0);
        atItsEdges(TWO + "family 0 1 0;debt ", " 1 1;", 2, 2);
        atItsEdges(TWO + "family 0 1 0;debt 1 ", " 1;", 0, 0);
        atItsEdges(TWO + "family 0 1 0;debt 1 ", " 1;", 2, 2);
        atItsEdges(TWO + "debt 1 0 ", ";", 1, 999);
    }

    private static void atItsEdges(String ahead, String behind, int least, int most) {
        int place = ahead.length();
        for (int n : new int[] {least, most}) {
            due.holds("8: " + ahead + n + behind, Due.read(new LongYear(), ahead + n + behind) > 0);
        }
        // alike is told where it is known: at the second FAMILY
        boolean alikeBehind = ahead.endsWith("debt ");
        if (least > 0) {
            boolean alike = alikeBehind && least - 1 == 1;
            readsTo(ahead + (least - 1) + behind, -10 - (alike ? place + 2 : place));
        }
        boolean alike = alikeBehind && most + 1 == 1;
        if (most < 9999) readsTo(ahead + (most + 1) + behind, -10 - (alike ? place + 2 : place));
    }

    private static void wordsThatAreNone() {
        for (String word : new String[] {"yea", "years", "Year", "stor", "stores", "famil", "familys", "jo", "jobs", "deb",
            "debts", "y", "a", "z", "storejob", "report", "rate", "word", "text", "xtore", "storx", "xamily", "familx",
            "xob", "jox", "xebt", "debx"}) {
            readsTo("year 5;" + word + " 0 1;", -10 - 7);
        }
        readsTo("yea 5;", -10);
        readsTo("years 5;", -10);
        readsTo("xear 5;", -10);
        readsTo("yeax 5;", -10);
        // the fault is the first: ahead of a byte that begins none, and of the text's end
        readsTo("years !", -10);
        readsTo("year 1 !", -10 - 5);
        readsTo("year ! 1", -10 - 5);
    }

    /** Whatever other TOKEN, or none, stands in a TOKEN's place: it is there that the FAULT is. */
    private static void tokenInPlaceOfAnother() {
        String[] tokens = {"year", "3", ";", "family", "1", "1", "1", ";", "family", "1", "1", "1", ";", "store", "1", "1",
            ";", "job", "1", "1", ";", "debt", "1", "0", "1", ";"};
        String[] others = {";", "1", "store", "none", "!", "11111", "-"};
        due.is("8: as it is", Due.read(new LongYear(), spaced(tokens, -1, "")), 6);
        for (int i = 0; i < tokens.length; i++) {
            for (String other : others) {
                boolean alike = kindOf(tokens[i]).equals(kindOf(other));
                if (alike) continue;
                due.is("8: " + other + " in place of TOKEN " + i, Due.read(new LongYear(), spaced(tokens, i, other)),
                    -10 - spaced(tokens, i, "").length());
            }
        }
    }

    /** The TOKENS with blanks between, one being another; or, that being empty, all ahead of it. */
    private static String spaced(String[] tokens, int place, String other) {
        StringBuilder text = new StringBuilder();
        for (int i = 0; i < tokens.length; i++) {
            if (i == place && other.isEmpty()) return text.toString();
            text.append(i == place ? other : tokens[i]).append(' ');
        }
        return text.toString();
    }

    private static String kindOf(String token) {
        if (token.equals(";") || token.equals("1")) return token;
        if (isFigure(token) && token.length() == 1) return "1";
        return token.equals("store") || token.equals("family") || token.equals("job") || token.equals("debt") ? "store" : token;
    }

    private static void yearOnceAndFirst() {
        readsTo("year 5;year 5;", -10 - 7);
        readsTo("year 5;store 0 1; year 6;", -10 - 18);
        readsTo("store 0 1;year 5;", -10);
        readsTo("family 0 1 1;", -10);
        readsTo("job 0 1;", -10);
        readsTo("debt 0 1 1;", -10);
        readsTo(";year 5;", -10);
        readsTo("  ;", -10 - 2);
        readsTo("5;", -10);
        readsTo("year 5;;", -10 - 7);
        readsTo("year 5", -10 - 6);
        readsTo("year 5 store 0 1;", -10 - 7);
        readsTo("year;", -10 - 4);
        readsTo("year year", -10 - 5);
    }

    private static void familyNotThereYet() {
        readsTo("year 5;job 0 1;", -10 - 11);
        readsTo("year 5;family 0 1 0;job 1 1;", -10 - 24);
        readsTo("year 5;job 0 1;family 0 1 0;", -10 - 11);
        readsTo("year 5;debt 0 1 1;", -10 - 12);
        readsTo("year 5;family 0 1 0;debt 0 1 1;", -10 - 27);
        readsTo("year 5;family 0 1 0;debt 0 0 1;", -10 - 27);
        readsTo("year 5;family 0 1 0;debt 1 0 1;", -10 - 25);
        readsTo(TWO + "debt 0 0 1;", -10 - 40);
        readsTo(TWO + "debt 1 1 1;", -10 - 40);
        readsTo(TWO + "debt 1 2 1;family 0 1 0;", -10 - 40);
    }

    private static void tooManyOfThem() {
        String six = "year 5;" + "family 0 1 0;".repeat(6);
        readsTo(six, 7);
        readsTo(six + "family 0 1 0;", -10 - 85);
        readsTo(six + "store 0 1;  family", -10 - 97);
        readsTo(six + "job 5 4;", 8);
        readsTo(six + "job 6 4;", -10 - 89);
        readsTo(six + "debt 5 4 1;debt 4 5 1;", 9);
        readsTo(six + "debt 6 4 1;", -10 - 90);
        readsTo(six + "debt 5 6 1;", -10 - 92);
        String eight = TWO + "debt 0 1 1;".repeat(8);
        readsTo(eight, 11);
        readsTo(eight + "debt 0 1 1;", -10 - 121);
        readsTo(eight + "store 0 1;debt", -10 - 131);
        readsTo(eight + "family 0 1 0;", 12);
        readsTo("year 5;" + "store 0 1;".repeat(14), 15);
    }

    /** 150 bytes are a TEXT like any other. */
    private static void aWholeText() {
        readsTo("year 5;" + " ".repeat(143), 1);
        readsTo(" ".repeat(143) + "year 5;", 1);
        readsTo(" ".repeat(144) + "year 5", -10 - 150);
        readsTo(" ".repeat(149) + "!", -10 - 149);
        readsTo(" ".repeat(150), -10 - 150);
        LongYear x = new LongYear();
        Due.type(x, " ".repeat(144) + "year 5;");
        due.is("8: a byte that did not come is not read", x.read(), -10 - 150);
    }

    /** YEAR 0, RATE 0, no REPORTS, WORDS, nothing to undo; IMAGES, THE TEXT, THE FRACTION, STATUS stay. */
    private static void readIsAllNew() {
        LongYear x = Lumps.full(), y = new LongYear();
        x.undo();
        x.type(-1);
        due.is("8: three ITEMS", x.read(), 3);
        due.is("8: STATUS stays", x.status(0), 1);
        due.is("8: THE FRACTION stays", x.part(0) * 10 + x.part(1), 35);
        Due.type(y, Lumps.WHOLE_TEXT);
        due.is("8: 150 bytes", y.count(13), 150);
        y.read();
        x.chance(0, 0);
        y.chance(0, 0);
        due.is("8: all else is as in a new one", x.digest(), y.digest());
        due.is("8: nothing to undo", x.undo(), NO);
        x.debt(0, 0, 1);
        due.is("8: THE TEXT stays", x.read(), 3);
        due.is("8: no DEBTS of a text that had a FAULT", readBehindAFault(), 0);
        due.is("8: IMAGE 0 stays", x.from(0), 1);
        due.is("8: with its YEAR", x.count(1), 2);
        due.is("8: IMAGE 1 stays", x.from(1), 1);
        due.is("8: with its YEARS to undo", x.count(12), 6);
    }

    private static int readBehindAFault() {
        LongYear x = new LongYear();
        Due.read(x, TWO + "debt 0 1 9;debt 1 0 9;!");
        Due.read(x, TWO);
        return x.count(7);
    }
}
