/** What the tests share: answers compared with what is due, and rows laid in one call. */
final class Check {
    static final int BAD = -1, NOT = -2, FULL = -3, STATE = -5, VOID = -2000000000;
    static final int NOTHING = -11, OTHER_KIND = -12, NO_PLACE = -13, BELOW_ZERO = -14;
    static final long NO_ELEMENT = Long.MIN_VALUE;
    static final int LOW = Integer.MIN_VALUE, HIGH = Integer.MAX_VALUE;

    private final String name;
    private int wrong;
    private int asked;

    Check(String name) {
        this.name = name;
    }

    void due(String promise, long got, long want) {
        asked++;
        if (got != want) {
            wrong++;
            System.out.println(name + ": " + promise + " answered " + got + ", due is " + want);
        }
    }

    void end() {
        System.out.println(name + ": " + asked + " answers, " + wrong + " wrong");
        if (wrong > 0) {
            System.exit(1);
        }
    }

    /** A pool with so many swimmers, all at (0, 0) and 5 tall. */
    static EightLegs pool(int swimmers) {
        EightLegs x = new EightLegs();
        for (int one = 0; one < swimmers; one++) {
            x.swimmer(0, 5);
        }
        return x;
    }

    static void lay(EightLegs x, int shelf, int sort, long... row) {
        x.row(shelf, sort, row.length);
        for (int i = 0; i < row.length; i++) {
            x.put(shelf, i, row[i]);
        }
    }

    /** A routine on shelf 0, a digit a count; another sign is an act that there is not. */
    static void routine(EightLegs x, String acts) {
        x.row(0, 0, acts.length());
        for (int k = 0; k < acts.length(); k++) {
            x.put(0, k, acts.charAt(k) - '0');
        }
    }

    static int law(EightLegs x, String text) {
        for (int i = 0; i < text.length(); i++) {
            x.feed(text.charAt(i));
        }
        return x.law();
    }
}
