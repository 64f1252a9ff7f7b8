/** Compares what calls answered with what was due, and ends the test with 1 if one differed. */
final class Due {
    private final String test;
    private int right;
    private int wrong;

    Due(String test) {
        this.test = test;
    }

    void is(String call, long got, long want) {
        if (got == want) {
            right++;
            return;
        }
        wrong++;
        System.out.println(test + ": " + call + " answered " + got + ", due is " + want);
    }

    void holds(String what, boolean so) {
        is(what, so ? 1 : 0, 1);
    }

    /** Types a text behind what is there. */
    static void type(LongYear x, String text) {
        for (int i = 0; i < text.length(); i++) x.type(text.charAt(i));
    }

    /** Reads a text alone. */
    static int read(LongYear x, String text) {
        x.clear();
        type(x, text);
        return x.read();
    }

    /** A lump told by a text that is known to be read whole. */
    static LongYear told(String text) {
        LongYear x = new LongYear();
        int items = read(x, text);
        if (items < 0) throw new IllegalArgumentException(text + " has a fault at " + (-10 - items));
        return x;
    }

    void end() {
        System.out.println(test + ": " + right + " as due, " + wrong + " not");
        if (wrong != 0) System.exit(1);
    }
}
