/** "Answers, of several the one named first": each call with all that can be wrong in it, together and alone. */
public final class OrderTest {
    private static final Check c = new Check("OrderTest");
    /** What a shelf is in a call: there is no such one, it holds nothing, a COUNT, longs, bytes, shorts. */
    private static final int NO_SUCH = 0, EMPTY = 1, COUNT = 2, LONGS = 3, BYTES = 4, SHORTS = 5;
    private static final int[] SHELF = {6, 1, 2, 3, 4, 5};

    private OrderTest() {
    }

    public static void main(String[] args) {
        joining();
        joiningFromRows();
        feeding();
        thinking();
        gaspsAndLooks();
        lines();
        ripples();
        bodies();
        keeping();
        puttingAndTaking();
        shifting();
        c.end();
    }

    private static EightLegs laid(int swimmers) {
        EightLegs x = Check.pool(swimmers);
        x.body(2);
        x.keep(2, 0);
        x.row(3, 3, 4);
        Check.lay(x, 4, 0, 1, 1, 1, 1, 0);
        x.row(5, 1, 4);
        return x;
    }

    private static boolean isRow(int held) {
        return held >= LONGS;
    }

    /** What a call that wants one sort of row answers, if nothing else is wrong. */
    private static int refusal(int held, int wanted) {
        return held == NO_SUCH ? Check.BAD : held == EMPTY ? Check.NOTHING : held == wanted ? 0 : Check.OTHER_KIND;
    }

    private static void joining() {
        for (int many : new int[] {7, 8}) {
            for (int xy : new int[] {0, 16, 1600, -1}) {
                for (int tall : new int[] {5, 0, 10}) {
                    boolean bad = xy != 0 || tall != 5;
                    c.due("2 BAD, FULL", Check.pool(many).swimmer(xy, tall), bad ? Check.BAD : many == 8 ? Check.FULL : 7);
                }
            }
        }
    }

    private static void joiningFromRows() {
        for (int held = NO_SUCH; held <= SHORTS; held++) {
            for (int many : new int[] {0, 7, 8}) {
                for (int n : new int[] {0, 1, 9}) {
                    for (int i : new int[] {-1, 0, 4, 60}) {
                        int due = held == BYTES && i == 0 && many < 8 ? 1 : 0;
                        due = held != BYTES && held != EMPTY ? Check.OTHER_KIND : due;
                        due = held == NO_SUCH || n != 1 ? Check.BAD : due;
                        c.due("3 BAD, -12, the row ends", laid(many).swimmers(SHELF[held], i, n), due);
                    }
                }
            }
        }
    }

    private static void feeding() {
        for (int letter : new int[] {-1, 0, 255, 256}) {
            for (int bytes : new int[] {119, 120}) {
                EightLegs x = new EightLegs();
                for (int i = 0; i < bytes; i++) {
                    x.feed('o');
                }
                boolean bad = letter < 0 || letter > 255;
                c.due("6 BAD, FULL", x.feed(letter), bad ? Check.BAD : bytes == 120 ? Check.FULL : 120);
            }
        }
    }

    private static final int THINKING = 12;

    /** A call of a routine, with a number that is good or not; each answers 0 of that routine and pool if all is well. */
    private static int thought(EightLegs x, int call, int shelf, boolean good) {
        switch (call) {
            case 0: return x.routine(shelf, good ? 1 : 4);
            case 1: return x.apart(shelf, good ? 60 : 61, 0);
            case 2: return x.apart(shelf, 0, good ? 0 : 2);
            case 3: return x.gone(shelf, good ? -1 : 2);
            case 4: return x.whose(shelf, good ? 1 : 2);
            case 5: return x.first(shelf, good ? 1 : -1);
            case 6: return x.slip(shelf, good ? 0 : 200, 0);
            case 7: return x.slip(shelf, good ? 59 : 60, 0);
            case 8: return x.slip(shelf, 0, good ? 1 : 100);
            case 9: return x.drawn(shelf, 1, good ? 100 : 99, 0);
            case 10: return x.drawn(shelf, 1, 100, good ? 0 : 2);
            default: return x.least(shelf, good ? 1 : 2) - (good ? 4 : 0);
        }
    }

    private static void thinking() {
        for (int held = NO_SUCH; held <= SHORTS; held++) {
            int refusal = refusal(held, BYTES);
            for (int call = 0; call < THINKING; call++) {
                int well = refusal != 0 && call == THINKING - 1 ? refusal - 4 : refusal;
                c.due("9-18, 26 alone in " + call, thought(laid(2), call, SHELF[held], true), well);
                c.due("9-18, 26 BAD ahead in " + call, thought(laid(2), call, SHELF[held], false), Check.BAD);
            }
            c.due("10 alone", laid(2).off(SHELF[held], 0, 0), refusal != 0 ? Check.VOID : 0);
            c.due("10 VOID", laid(2).off(SHELF[held], 61, 0), Check.VOID);
            c.due("10 VOID", laid(2).off(SHELF[held], 0, 2), Check.VOID);
            c.due("27 alone", laid(2).swim(SHELF[held]), refusal);
        }
    }

    private static void gaspsAndLooks() {
        for (int held = NO_SUCH; held <= SHORTS; held++) {
            for (int k : new int[] {-2, -1, 0, 99}) {
                for (int counts : new int[] {5, 16, 17}) {
                    EightLegs x = laid(2);
                    x.row(4, 0, counts);
                    int due = counts > 16 ? Check.STATE : k < 0 ? 0 : Check.NOT;
                    due = refusal(held, BYTES) != 0 ? refusal(held, BYTES) : due;
                    due = k < -1 ? Check.BAD : due;
                    c.due("14 BAD, -11, -12, STATE, NOT", x.gasps(SHELF[held], k), due);
                    c.due("15 BAD, -11, -12, STATE, NOT", x.looks(SHELF[held], k), due);
                }
            }
        }
    }

    private static void lines() {
        for (int slant : new int[] {-1, 0, 9, 10}) {
            for (int k : new int[] {-2, -1, 0, 5, 6, 7, 8}) {
                for (int many = 5; many <= 8; many++) {
                    int due = many > 6 ? Check.STATE : k >= many ? Check.NOT : 0;
                    due = slant < 0 || slant > 9 || k < -1 ? Check.BAD : due;
                    int got = Check.pool(many).line(slant, k);
                    c.due("19 BAD; STATE; NOT", due == 0 ? Math.min(got, 0) : got, due);
                }
            }
        }
    }

    private static int read(EightLegs x, int call, int sr, int one) {
        switch (call) {
            case 0: return x.judge(sr);
            case 1: return x.whoLed(sr);
            case 2: return x.later(sr, one);
            default: return x.quicker(sr, one);
        }
    }

    private static void ripples() {
        int[] well = {Check.NOT, 3, 0, 0};
        for (int routine = NO_SUCH; routine <= SHORTS; routine++) {
            for (int row = NO_SUCH; row <= SHORTS; row++) {
                boolean bad = routine == NO_SUCH || row == NO_SUCH;
                boolean nothing = routine == EMPTY || row == EMPTY;
                boolean other = routine != BYTES || row != SHORTS;
                int due = bad ? Check.BAD : nothing ? Check.NOTHING : other ? Check.OTHER_KIND : 0;
                int sr = 10 * SHELF[routine] + SHELF[row];
                for (int call = 0; call <= 3; call++) {
                    int no = call == 3 && due == Check.BAD ? Check.VOID : due;
                    c.due("22-25 BAD, -11, -12 in " + call, read(laid(2), call, sr, 0), no != 0 ? no : well[call]);
                }
                c.due("24 BAD ahead", laid(2).later(sr, 2), Check.BAD);
                c.due("25 BAD ahead", laid(2).quicker(sr, -1), Check.VOID);
            }
        }
    }

    private static void bodies() {
        for (int kind : new int[] {-1, 0, 7, 8}) {
            for (int many : new int[] {49, 50}) {
                EightLegs x = new EightLegs();
                for (int n = 0; n < many; n++) {
                    x.body(0);
                }
                boolean bad = kind < 0 || kind > 7;
                c.due("33 BAD, FULL", x.body(kind), bad ? Check.BAD : many == 50 ? Check.FULL : 49);
            }
        }
    }

    private static void keeping() {
        for (int shelf : new int[] {-1, 0, 5, 6}) {
            boolean noShelf = shelf < 0 || shelf > 5;
            for (int body : new int[] {-2, -1, 0, 1}) {
                boolean bad = noShelf || body == -2 || body == 1;
                c.due("36 BAD", laid(0).keep(shelf, body), bad ? Check.BAD : 1);
            }
            for (int sort : new int[] {-1, 0, 4, 5}) {
                for (int n : new int[] {Check.LOW, -1, 0, 60, 61, Check.HIGH}) {
                    boolean bad = noShelf || sort < 0 || sort > 4 || n > 60;
                    c.due("37 BAD, -14", laid(0).row(shelf, sort, n), bad ? Check.BAD : n < 0 ? Check.BELOW_ZERO : 1);
                }
            }
        }
    }

    private static void puttingAndTaking() {
        for (int held = NO_SUCH; held <= SHORTS; held++) {
            for (int i : new int[] {-1, 0, 3, 5}) {
                boolean there = i >= 0 && i <= 3;
                int due = held == NO_SUCH ? Check.BAD : held == EMPTY ? Check.NOTHING : held == COUNT ? Check.OTHER_KIND : there ? 1 : Check.NO_PLACE;
                c.due("38 BAD, -11, -12, -13", laid(0).put(SHELF[held], i, 0), due);
                c.due("39 Long.MIN_VALUE", laid(0).element(SHELF[held], i) == Check.NO_ELEMENT ? 1 : 0, due == 1 ? 0 : 1);
            }
            for (int k : new int[] {-1, 0, 1, 2, 3, 8}) {
                boolean under = k == 0 || k == 2;
                int due = held == EMPTY ? Check.NOTHING : held == COUNT && under ? 2 : Check.OTHER_KIND;
                due = held == NO_SUCH || k == -1 || k == 8 ? Check.BAD : due;
                c.due("41 BAD, -11, -12", laid(0).taken(SHELF[held], k), due);
            }
        }
    }

    private static void shifting() {
        for (int from = NO_SUCH; from <= SHORTS; from++) {
            for (int to = NO_SUCH; to <= SHORTS; to++) {
                int due = from == to && isRow(from) ? 0 : Check.OTHER_KIND;
                due = from == EMPTY || to == EMPTY ? Check.NOTHING : due;
                due = from == NO_SUCH || to == NO_SUCH ? Check.BAD : due;
                c.due("40 BAD, -11, -12", laid(0).shift(SHELF[from], 0, SHELF[to], 1, 3), due != 0 ? due : 3);
                int[][] places = {{-1, 0, 1}, {0, -1, 1}, {0, 0, -1}, {9, 0, 0}, {0, 9, 0}, {0, 0, 9}};
                for (int[] p : places) {
                    c.due("40 -13 is the last", laid(0).shift(SHELF[from], p[0], SHELF[to], p[1], p[2]), due != 0 ? due : Check.NO_PLACE);
                }
            }
        }
    }
}
