/** Counts answers that are not the ones that are due, and ends the test with 1 if there was one. */
final class Due {
    static final int BEYOND = -1000001;
    static final int FULL = -1000002;
    static final int KIND = -1000003;
    static final int NONE = -1000004;
    static final int STATE = -1000005;
    static final int MISSING = -1000006;
    static final int SIZE = -1000007;

    static final int ONCE = 0;
    static final int KEPT = 1;
    static final int LOW = 2;
    static final int OVER = 3;
    static final int CARRIED = 4;
    static final int CURSED = 5;
    static final int HUSHED = 6;
    static final int KINDS = 7;

    /** Numbers that are far from all that the document allows. */
    static final int[] FAR = {Integer.MIN_VALUE, Integer.MIN_VALUE + 1, -1000001, -101, -100, -2,
        10000, 1 << 16, 1 << 30, Integer.MAX_VALUE - 1, Integer.MAX_VALUE};

    private int wrong;
    private int asked;

    void due(String call, long got, long want) {
        asked++;
        if (got != want) {
            wrong++;
            System.out.println(call + " answered " + got + ", due is " + want);
        }
    }

    void end() {
        System.out.println(asked + " answers asked, " + wrong + " not as due");
        if (wrong != 0 || asked == 0) {
            System.exit(1);
        }
    }

    /** A text is put on the tape behind what is there. */
    static void put(EchoValley x, String text) {
        for (int i = 0; i < text.length(); i++) {
            x.feed(text.charAt(i), 1);
        }
    }

    static int read(EchoValley x, String text) {
        put(x, text);
        return x.text();
    }

    static void days(EchoValley x, int n) {
        for (int left = n; left > 0; left -= 20) {
            x.days(Math.min(left, 20));
        }
    }

    /** PLACES 0 to 9 in a row. */
    static void row(EchoValley x) {
        for (int i = 0; i < 9; i++) {
            x.way(i, i + 1, true);
        }
    }

    static int set(int... bits) {
        int set = 0;
        for (int bit : bits) {
            set |= 1 << bit;
        }
        return set;
    }
}
