/** Counts the answers that are not as due, and prints them. */
final class Check {
    static final int BEYOND = -1000001;
    static final int FULL = -1000002;
    static final int KIND = -1000003;
    static final int NONE = -1000004;
    static final int STATE = -1000005;
    static final int MISSING = -1000006;
    static final int SIZE = -1000007;

    private int wrong;
    private int asked;

    void due(String call, long got, long want) {
        asked++;
        if (got != want) {
            wrong++;
            System.out.println(call + " answered " + got + ", due is " + want);
        }
    }

    void holds(String what, boolean is) {
        asked++;
        if (!is) {
            wrong++;
            System.out.println("not so: " + what);
        }
    }

    /** Ends the program with exit code 1 if an answer was wrong, or if nothing was asked. */
    void end() {
        System.out.println(asked + " asked, " + wrong + " wrong");
        if (wrong != 0 || asked == 0) {
            System.exit(1);
        }
    }

    /** Puts a text of bytes on the tape, one by one. */
    static void put(MovingMarket x, String text) {
        for (int i = 0; i < text.length(); i++) {
            x.feed(text.charAt(i), 1);
        }
    }

    static int read(MovingMarket x, String text) {
        x.wipe();
        put(x, text);
        return x.text();
    }

    /** A market without visits, so that nobody sells out. */
    static MovingMarket quiet() {
        MovingMarket x = new MovingMarket();
        for (int place = 0; place < 12; place++) {
            x.visits(place, 0);
        }
        return x;
    }
}
