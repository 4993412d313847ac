/** What is small is tried whole, against the Model: all short texts, all short routines, all lines and lifts of few. */
public final class SmallWorldsTest {
    private static final Check c = new Check("SmallWorldsTest");
    private static final String LETTERS = "o1!-()<|*?;x";
    private static final int LONGEST = 5;

    private SmallWorldsTest() {
    }

    public static void main(String[] args) {
        texts();
        digits();
        openOnes();
        routines();
        gaspsAndLooks();
        linesAndLifts();
        longLines();
        acts();
        c.end();
    }

    // ---- texts

    private static void texts() {
        EightLegs x = new EightLegs();
        int calls = 0;
        for (int size = 0; size <= LONGEST; size++) {
            int many = (int) Math.pow(LETTERS.length(), size);
            for (int which = 0; which < many; which++) {
                if (calls > 500) {
                    x = new EightLegs();
                    calls = 0;
                }
                faultOf(x, text(which, size));
                calls += size + 1;
            }
        }
    }

    private static String text(int which, int size) {
        StringBuilder text = new StringBuilder();
        int rest = which;
        for (int i = 0; i < size; i++) {
            text.append(LETTERS.charAt(rest % LETTERS.length()));
            rest /= LETTERS.length();
        }
        return text.toString();
    }

    private static void faultOf(EightLegs x, String text) {
        int fault = Model.fault(text);
        c.due("7 law of '" + text + "'", Check.law(x, text), fault < 0 ? 1 : -100 - fault);
    }

    /** Each byte there is, where an O is due and behind one, and numbers of 1 to 6 digits. */
    private static void digits() {
        for (int letter = 0; letter <= 255; letter++) {
            EightLegs x = Check.pool(2);
            String one = String.valueOf((char) letter);
            faultOf(x, one);
            faultOf(x, "o" + one);
            faultOf(x, "o" + one + "o");
            faultOf(x, "o?" + one);
            faultOf(x, "(o" + one + "1)");
        }
        for (int digit = 0; digit <= 9; digit++) {
            EightLegs x = Check.pool(2);
            for (int size = 1; size <= 6; size++) {
                String number = String.valueOf(digit).repeat(size);
                faultOf(x, number);
                faultOf(x, "(" + number + ")");
                faultOf(x, "!" + number + "+" + number);
            }
        }
    }

    /** All ways to open up to eight, six at most at once. */
    private static void openOnes() {
        for (int size = 0; size <= 8; size++) {
            for (int which = 0; which < Math.pow(3, size); which++) {
                StringBuilder ahead = new StringBuilder();
                StringBuilder behind = new StringBuilder();
                for (int rest = which, i = 0; i < size; i++, rest /= 3) {
                    ahead.append("(!-".charAt(rest % 3));
                    behind.append(rest % 3 == 0 ? ")" : "");
                }
                EightLegs x = new EightLegs();
                c.due("7 six open at once", Check.law(x, ahead + "o" + behind), size <= 6 ? 1 : -106);
                c.due("7 and once more", Check.law(x, ahead + "o" + behind + "*" + ahead + "o" + behind), size <= 6 ? 1 : -106);
                faultOf(x, ahead + "o" + behind + ")");
                faultOf(x, ahead.toString());
            }
        }
    }

    // ---- routines

    private interface Pool {
        void fill(EightLegs x, Model m);
    }

    private static void mend(EightLegs x, Model m, int number, int what, int v) {
        x.mend(number, what, v);
        m.mend(number, what, v);
    }

    private static void join(EightLegs x, Model m, int many) {
        for (int one = 0; one < many; one++) {
            x.swimmer(100 * one, one + 3);
            m.swimmer(100 * one, one + 3);
        }
    }

    private static final Pool[] POOLS = {
        (x, m) -> join(x, m, 0),
        (x, m) -> {
            join(x, m, 1);
            mend(x, m, 0, 3, 1);
            mend(x, m, 0, 4, 9);
        },
        (x, m) -> {
            join(x, m, 2);
            mend(x, m, 0, 3, 2);
            mend(x, m, 0, 4, 3);
            mend(x, m, 1, 4, -2);
            mend(x, m, 0, 7, 10);
        },
        (x, m) -> {
            join(x, m, 3);
            mend(x, m, 2, 3, 3);
            mend(x, m, 0, 4, -1);
            mend(x, m, 1, 5, 4);
            mend(x, m, 2, 4, 2);
            mend(x, m, 0, 6, 2);
            mend(x, m, 0, 7, 6);
            mend(x, m, 0, 8, 2);
        },
        (x, m) -> {
            join(x, m, 3);
            mend(x, m, 1, 3, 1);
            mend(x, m, 1, 4, 5);
            mend(x, m, 0, 6, 3);
            mend(x, m, 0, 7, 7);
            mend(x, m, 0, 8, 3);
        },
        (x, m) -> {
            join(x, m, 6);
            for (int one = 0; one < 6; one++) {
                mend(x, m, one, 4, one % 3 - 1);
                mend(x, m, one, 3, 1 + one);
            }
            mend(x, m, 5, 5, 9);
            mend(x, m, 0, 6, 5);
            mend(x, m, 0, 7, 3);
            join(x, m, 2);
        },
    };

    /** All routines of up to five counts in six pools. */
    private static void routines() {
        for (Pool pool : POOLS) {
            for (int size = 0; size <= 5; size++) {
                for (int which = 0; which < Math.pow(5, size); which++) {
                    EightLegs x = new EightLegs();
                    Model m = new Model();
                    pool.fill(x, m);
                    lay(x, m, which, size, 5);
                    thoughtOf(x, m, size);
                }
            }
        }
    }

    private static void lay(EightLegs x, Model m, int which, int size, int acts) {
        x.row(0, 0, size);
        m.row(0, 0, size);
        int rest = which;
        for (int k = 0; k < size; k++) {
            x.put(0, k, rest % acts);
            m.put(0, k, rest % acts);
            rest /= acts;
        }
    }

    private static void thoughtOf(EightLegs x, Model m, int size) {
        for (int what = 0; what <= 3; what++) {
            c.due("9 " + what, x.routine(0, what), m.routine(0, what));
        }
        for (int n = 0; n <= size + 1; n++) {
            c.due("11 how far", x.apart(0, n, 0), m.apart(0, n, 0));
            c.due("11 which two", x.apart(0, n, 1), m.apart(0, n, 1));
        }
        for (int one = -1; one <= x.count(0); one++) {
            c.due("10 off", x.off(0, size, one), m.off(0, size, one));
            c.due("12 gone", x.gone(0, one), m.gone(0, one));
            c.due("13 least", x.least(0, one), m.least(0, one));
            c.due("18 slip", x.slip(0, 100 * one + 1, 7), m.slip(0, 100 * one + 1, 7));
        }
        for (int k = -1; k <= size; k++) {
            c.due("14 gasps", x.gasps(0, k), m.gasps(0, k));
            c.due("15 looks", x.looks(0, k), m.looks(0, k));
        }
        for (int what = 0; what <= 1; what++) {
            c.due("16 whose", x.whose(0, what), m.whose(0, what));
            c.due("17 first", x.first(0, what), m.first(0, what));
            c.due("26 drawn", x.drawn(0, 9, 305, what), m.drawn(0, 9, 305, what));
        }
        c.due("27 swim", x.swim(0), m.swim(0));
        for (int what = 0; what <= 4; what++) {
            c.due("28 led", x.led(what), m.led(what));
        }
    }

    /** Routines of eight counts of 0 and 1, by breaths, gasps and what is seen. */
    private static void gaspsAndLooks() {
        for (int which = 0; which < 256; which++) {
            for (int breath = 1; breath <= 3; breath++) {
                EightLegs x = new EightLegs();
                Model m = new Model();
                join(x, m, 2);
                mend(x, m, 1, 3, breath);
                mend(x, m, 1, 4, 3);
                mend(x, m, 0, 7, 3 * breath + 1);
                lay(x, m, which, 8, 2);
                for (int gasp = 1; gasp <= 4; gasp++) {
                    mend(x, m, 0, 8, gasp);
                    for (int k = -1; k <= 5; k++) {
                        c.due("14 gasps", x.gasps(0, k), m.gasps(0, k));
                        c.due("15 looks", x.looks(0, k), m.looks(0, k));
                    }
                }
            }
        }
    }

    // ---- lines and lifts

    private static void linesAndLifts() {
        for (int many = 0; many <= 4; many++) {
            for (int tall = 0; tall < Math.pow(9, many); tall++) {
                EightLegs x = new EightLegs();
                Model m = new Model();
                for (int rest = tall, one = 0; one < many; one++, rest /= 9) {
                    x.swimmer(0, 1 + rest % 9);
                    m.swimmer(0, 1 + rest % 9);
                }
                c.due("20 she", x.lift(0), m.lift(0));
                c.due("20 who", x.lift(1), m.lift(1));
                for (int slant = many < 4 ? 0 : tall % 10; slant <= (many < 4 ? 9 : tall % 10); slant++) {
                    linesOf(x, m, slant, many);
                }
            }
        }
    }

    private static void linesOf(EightLegs x, Model m, int slant, int many) {
        for (int k = -1; k <= many; k++) {
            c.due("19 " + k + " of " + many, x.line(slant, k), m.line(slant, k));
        }
    }

    /** Lines of five and six, lifts of up to eight, by draws. */
    private static void longLines() {
        Draws draws = new Draws(19);
        for (int many = 5; many <= 8; many++) {
            for (int i = 0; i < 60; i++) {
                EightLegs x = new EightLegs();
                Model m = new Model();
                for (int one = 0; one < many; one++) {
                    int tall = 1 + draws.nextInt(9);
                    x.swimmer(0, tall);
                    m.swimmer(0, tall);
                }
                c.due("20 she", x.lift(0), m.lift(0));
                c.due("20 who", x.lift(1), m.lift(1));
                linesOf(x, m, i % 10, many);
            }
        }
    }

    // ---- acts

    private static void acts() {
        int[] xs = {0, 1, -1, 2, 7, 1000000007, Check.HIGH, Check.HIGH - 1, Check.LOW, Check.LOW + 1, 1 << 30, -(1 << 30)};
        for (int kind = 0; kind <= 7; kind++) {
            for (int number = 0; number <= 49; number += 7) {
                EightLegs x = new EightLegs();
                Model m = new Model();
                for (int n = 0; n < number; n++) {
                    x.body(n % 8);
                    m.body(n % 8);
                }
                x.body(kind);
                m.body(kind);
                for (int v : xs) {
                    actsOf(x, m, number, v);
                }
            }
        }
    }

    private static void actsOf(EightLegs x, Model m, int number, int v) {
        for (int act = 0; act <= 3; act++) {
            c.due("34 act " + act, x.act(number, act, v), m.act(number, act, v));
            c.due("42 how many ran", x.count(4), m.count(4));
            c.due("35 the last", x.trace(x.count(4) - 1), m.trace(m.count(4) - 1));
        }
    }
}
