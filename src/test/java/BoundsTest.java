import java.util.function.IntToLongFunction;

/** Each number that a call is told: the last one that is good, and the first one that isn't, on both sides. */
public final class BoundsTest {
    private static final Check c = new Check("BoundsTest");

    private BoundsTest() {
    }

    public static void main(String[] args) {
        swimmer();
        swimmers();
        mend();
        of();
        feed();
        loses();
        routine();
        ones();
        slip();
        ground();
        ripples();
        drawn();
        led();
        bodies();
        shelves();
        rows();
        shift();
        count();
        c.end();
    }

    /** Good from least to most, and refused at once beyond, as far as an int goes. */
    private static void within(String told, int least, int most, long refusal, IntToLongFunction call) {
        for (int good : new int[] {least, Math.min(least + 1, most), Math.max(most - 1, least), most}) {
            c.due(told + " " + good + " refused", call.applyAsLong(good) == refusal ? 1 : 0, 0);
        }
        beside(told, least, most, refusal, call);
    }

    private static void beside(String told, int least, int most, long refusal, IntToLongFunction call) {
        for (int wrong : new int[] {least - 1, least - 2, most + 1, most + 2, Check.LOW, Check.HIGH, least - 256, most + 256, least + 65536}) {
            c.due(told + " " + wrong, call.applyAsLong(wrong), refusal);
        }
    }

    private static EightLegs two() {
        return Check.pool(2);
    }

    /** Two swimmers, a routine of 5 counts on shelf 0, ripples on shelf 1, a COUNT on shelf 2, a row of 60 longs on shelf 3. */
    private static EightLegs laid() {
        EightLegs x = two();
        Check.routine(x, "01234");
        x.row(1, 1, 2);
        x.body(7);
        x.keep(2, 0);
        x.row(3, 3, 60);
        return x;
    }

    private static void swimmer() {
        within("2 X", 0, 15, Check.BAD, v -> two().swimmer(v < 0 || v > 99 ? Check.LOW : v, 5));
        within("2 X with Y 15", 0, 15, Check.BAD, v -> two().swimmer(v < 0 || v > 99 ? -1 : 1500 + v, 5));
        within("2 Y", 0, 15, Check.BAD, v -> two().swimmer(v > 9999999 ? Check.HIGH : v < -9999999 ? Check.LOW : 100 * v, 5));
        within("2 TALL", 1, 9, Check.BAD, v -> two().swimmer(0, v));
        for (int many = 0; many <= 7; many++) {
            c.due("2 room for one more", Check.pool(many).swimmer(0, 5), many);
        }
        c.due("2 FULL", Check.pool(8).swimmer(0, 5), Check.FULL);
    }

    private static void swimmers() {
        within("3 n", 1, 8, Check.BAD, v -> laid().swimmers(0, 0, v));
        within("3 shelf", 0, 5, Check.BAD, v -> new EightLegs().swimmers(v, 0, 1));
        int[] least = {0, 0, 1, -9};
        int[] most = {15, 15, 9, 9};
        for (int i = 0; i < 4; i++) {
            int which = i;
            within("3 number " + i + " of a four", least[i], most[i], 0, v -> fromFour(which, v));
        }
        for (int size = 0; size <= 9; size++) {
            for (int i = 0; i <= 9; i++) {
                EightLegs x = new EightLegs();
                x.row(0, 0, size);
                for (int at = 2; at < size; at++) {
                    x.put(0, at, 1);
                }
                // a four that begins at 0 or 1 has a 0 or a 1 for TALL at place 2 or 3, so all of them are so
                c.due("3 row of " + size + " from " + i, x.swimmers(0, i, 8), Math.max(0, (size - i) / 4));
            }
        }
        for (int many = 0; many <= 8; many++) {
            for (int n = 1; n <= 8; n++) {
                EightLegs x = Check.pool(many);
                x.row(0, 0, 60);
                for (int at = 0; at < 60; at++) {
                    x.put(0, at, 1);
                }
                c.due("3 " + n + " more than " + many + ", until they are FULL", x.swimmers(0, 0, n), Math.min(n, 8 - many));
                c.due("3 how many then", x.count(0), Math.min(8, many + n));
            }
        }
    }

    /** How many come of a four of which one number is told; what a byte cannot hold is not so either. */
    private static long fromFour(int which, int v) {
        EightLegs x = new EightLegs();
        long[] four = {1, 1, 1, 1};
        four[which] = v < -128 ? -128 : v > 127 ? 127 : v;
        Check.lay(x, 4, 0, four);
        int came = x.swimmers(4, 0, 1);
        int[] whats = {0, 1, 2, 4};
        c.due("3 her number", came == 1 ? x.of(0, whats[which]) : v, v);
        return came;
    }

    private static void mend() {
        int[] least = {0, 0, 1, 1, -9, 0, 0, 1, 1};
        int[] most = {15, 15, 9, 60, 9, 99, 7, 999, 9};
        for (int what = 0; what <= 8; what++) {
            int which = what;
            within("4 what " + what + " v", least[what], most[what], Check.VOID, v -> two().mend(0, which, v));
            within("4 what " + what + " number", 0, what <= 5 ? 1 : 0, Check.VOID, v -> two().mend(v, which, 1));
            within("4 what " + what + " number of 8", 0, what <= 5 ? 7 : 0, Check.VOID, v -> Check.pool(8).mend(v, which, 1));
            for (int v = least[what]; v <= most[what]; v++) {
                EightLegs x = two();
                x.mend(0, what, v);
                c.due("4 what " + what + " becomes " + v, x.of(0, what), v);
            }
        }
        within("4 what", 0, 8, Check.VOID, v -> two().mend(0, v, 1));
    }

    private static void of() {
        within("5 what", 0, 10, Check.VOID, v -> two().of(0, v));
        for (int what = 0; what <= 10; what++) {
            int which = what;
            boolean ofAll = what >= 6 && what <= 8;
            within("5 what " + what + " number", 0, ofAll ? 0 : 1, Check.VOID, v -> two().of(v, which));
            within("5 what " + what + " number of 8", 0, ofAll ? 0 : 7, Check.VOID, v -> Check.pool(8).of(v, which));
            c.due("5 what " + what + " of nobody", new EightLegs().of(0, what), what == 6 ? 0 : what == 7 ? 25 : what == 8 ? 1 : Check.VOID);
        }
    }

    private static void feed() {
        within("6 letter", 0, 255, Check.BAD, v -> two().feed(v));
        EightLegs x = two();
        for (int bytes = 1; bytes <= 120; bytes++) {
            c.due("6 how many", x.feed('o'), bytes);
        }
        c.due("6 FULL", x.feed('o'), Check.FULL);
    }

    private static void loses() {
        within("8 o", 0, 9999, Check.BAD, v -> two().loses(1, v, 0));
        for (int e = 0; e <= 4; e++) {
            for (int k = 0; k <= 99; k++) {
                c.due("8 e " + e + " k " + k, two().loses(1, 25, 100 * e + k), k > 59 ? Check.BAD : e == 2 ? 2 : 1);
            }
        }
        beside("8 ek", 0, 459, Check.BAD, v -> two().loses(1, 25, v));
        for (int many = 0; many <= 8; many++) {
            for (int ab = 0; ab <= 109; ab++) {
                boolean good = ab / 10 < many && ab % 10 < many && ab / 10 != ab % 10;
                c.due("8 ab " + ab + " of " + many, Check.pool(many).loses(ab, 25, 0), good ? 1 : Check.BAD);
            }
        }
        beside("8 ab", 0, 76, Check.BAD, v -> Check.pool(8).loses(v, 25, 0));
    }

    private static void routine() {
        within("9 what", 0, 3, Check.BAD, v -> laid().routine(0, v));
        within("10 n", 0, 60, Check.VOID, v -> laid().off(0, v, 0));
        within("11 n", 0, 60, Check.BAD, v -> laid().apart(0, v, 0));
        within("11 n", 0, 60, Check.BAD, v -> laid().apart(0, v, 1));
        within("11 what", 0, 1, Check.BAD, v -> laid().apart(0, 0, v));
        within("16 what", 0, 1, Check.BAD, v -> laid().whose(0, v));
        within("17 what", 0, 1, Check.BAD, v -> laid().first(0, v));
        for (int k = -1; k <= 20; k++) {
            c.due("14 k " + k, laid().gasps(0, k), k < 0 ? 0 : Check.NOT);
            c.due("15 k " + k, laid().looks(0, k), k < 0 ? 0 : Check.NOT);
        }
        for (int k : new int[] {-2, -3, -100, Check.LOW}) {
            c.due("14 k " + k, laid().gasps(0, k), Check.BAD);
            c.due("15 k " + k, laid().looks(0, k), Check.BAD);
        }
        for (int k : new int[] {60, 100, Check.HIGH}) {
            c.due("14 k " + k, laid().gasps(0, k), Check.NOT);
            c.due("15 k " + k, laid().looks(0, k), Check.NOT);
        }
    }

    /** Who is asked for, of as many as there are. */
    private static void ones() {
        for (int swimmers = 1; swimmers <= 8; swimmers++) {
            int many = swimmers;
            within("10 one of " + many, 0, many - 1, Check.VOID, v -> asked(many, 0, v));
            within("12 one of " + many, -1, many - 1, Check.BAD, v -> asked(many, 1, v));
            within("13 one of " + many, 0, many - 1, Check.BAD, v -> asked(many, 2, v));
            within("24 one of " + many, 0, many - 1, Check.BAD, v -> asked(many, 3, v));
            within("25 one of " + many, 0, many - 1, Check.VOID, v -> asked(many, 4, v));
            within("18 one of " + many, 0, many - 1, Check.BAD, v -> asked(many, 5, v));
        }
        c.due("10 nobody", asked(0, 0, 0), Check.VOID);
        c.due("12 nobody", asked(0, 1, 0), Check.BAD);
        c.due("13 nobody", asked(0, 2, 0), Check.BAD);
        c.due("24 nobody", asked(0, 3, 0), Check.BAD);
        c.due("25 nobody", asked(0, 4, 0), Check.VOID);
        c.due("18 nobody", asked(0, 5, 0), Check.BAD);
    }

    private static long asked(int many, int call, int one) {
        EightLegs x = Check.pool(many);
        Check.routine(x, "01");
        x.row(1, 1, 2);
        switch (call) {
            case 0: return x.off(0, 1, one);
            case 1: return x.gone(0, one);
            case 2: return x.least(0, one);
            case 3: return x.later(1, one);
            case 4: return x.quicker(1, one);
            default: return x.slip(0, one > 9999999 ? Check.HIGH : one < -9999999 ? Check.LOW : 100 * one, 0);
        }
    }

    private static void slip() {
        within("18 v", -99, 99, Check.BAD, v -> laid().slip(0, 0, v));
        for (int k = 0; k <= 99; k++) {
            c.due("18 k " + k, laid().slip(0, 100 + k, 0), k > 59 ? Check.BAD : 0);
        }
        beside("18 ok", 0, 159, Check.BAD, v -> laid().slip(0, v, 0));
    }

    private static void ground() {
        within("19 slant", 0, 9, Check.BAD, v -> two().line(v, -1));
        for (int k : new int[] {-2, -3, -100, Check.LOW}) {
            c.due("19 k " + k, two().line(0, k), Check.BAD);
        }
        for (int many = 0; many <= 6; many++) {
            for (int k = 0; k <= 8; k++) {
                c.due("19 k " + k + " of " + many, Check.pool(many).line(0, k), k < many ? k : Check.NOT);
            }
            c.due("19 far beyond", Check.pool(many).line(0, Check.HIGH), Check.NOT);
        }
        c.due("19 six at most", Check.pool(6).line(0, -1), 0);
        c.due("19 seven", Check.pool(7).line(0, -1), Check.STATE);
        c.due("19 eight", Check.pool(8).line(0, -1), Check.STATE);
        within("20 what", 0, 1, Check.BAD, v -> two().lift(v));
        within("21 what", 0, 2, Check.BAD, v -> two().star(v));
        for (int many = 0; many <= 8; many++) {
            c.due("20 three and she are four", Check.pool(many).lift(0), many < 4 ? Check.NOT : 0);
            c.due("20 who", Check.pool(many).lift(1), many < 4 ? Check.NOT : 14);
        }
    }

    private static void ripples() {
        for (int routine = 0; routine <= 9; routine++) {
            for (int row = 0; row <= 9; row++) {
                int sr = 10 * routine + row;
                long due = routine > 5 || row > 5 ? Check.BAD : Check.NOTHING;
                c.due("22 sr " + sr, two().judge(sr), due);
                c.due("23 sr " + sr, two().whoLed(sr), due);
                c.due("24 sr " + sr, two().later(sr, 0), due);
                c.due("25 sr " + sr, two().quicker(sr, 0), due == Check.BAD ? Check.VOID : due);
            }
        }
        beside("22 sr", 0, 55, Check.BAD, v -> laid().judge(v));
        beside("23 sr", 0, 55, Check.BAD, v -> laid().whoLed(v));
        beside("24 sr", 0, 55, Check.BAD, v -> laid().later(v, 0));
        beside("25 sr", 0, 55, Check.VOID, v -> laid().quicker(v, 0));
    }

    private static void drawn() {
        for (int n = 0; n <= 32; n++) {
            for (int slips = 0; slips <= 99; slips += slips == 14 ? 85 : 1) {
                boolean good = n >= 1 && n <= 30 && slips <= 12;
                c.due("26 ns " + n + ", " + slips, two(n, slips), good ? n : Check.BAD);
            }
        }
        beside("26 ns", 100, 3012, Check.BAD, v -> laid().drawn(0, 0, v, 0));
        within("26 what", 0, 1, Check.BAD, v -> laid().drawn(0, 0, 100, v));
        for (int seed : new int[] {0, 1, -1, Check.LOW, Check.HIGH}) {
            c.due("26 any seed", laid().drawn(0, seed, 3000, 1), 30);
        }
    }

    /** All trainings of a routine without counts are without marks. */
    private static long two(int n, int slips) {
        EightLegs x = two();
        x.row(0, 0, 0);
        return x.drawn(0, 7, 100 * n + slips, 1);
    }

    private static void led() {
        within("28 what", 0, 4, Check.BAD, v -> laid().led(v));
    }

    private static void bodies() {
        within("33 kind", 0, 7, Check.BAD, v -> two().body(v));
        within("34 act", 0, 3, 0, v -> actOfSeven(v, 100));
        within("34 body", 0, 9, 0, v -> {
            EightLegs x = two();
            for (int n = 0; n < 10; n++) {
                x.body(0);
            }
            return x.act(v, 0, 100);
        });
        for (int ran = 1; ran <= 3; ran++) {
            int act = ran == 1 ? 0 : ran == 2 ? 1 : 3;
            int many = ran == 3 ? 4 : ran;
            within("35 i of " + many, 0, many - 1, Check.BAD, v -> {
                EightLegs x = two();
                x.body(0);
                x.act(0, act, 3);
                return x.trace(v);
            });
        }
        beside("35 i of none", 0, -1, Check.BAD, v -> two().trace(v));
        c.due("35 i 0 of none", two().trace(0), Check.BAD);
    }

    private static long actOfSeven(int act, int v) {
        EightLegs x = two();
        for (int n = 0; n < 8; n++) {
            x.body(0);
        }
        return x.act(7, act, v);
    }

    private static void shelves() {
        within("36 shelf", 0, 5, Check.BAD, v -> laid().keep(v, 0));
        within("36 body", -1, 0, Check.BAD, v -> laid().keep(0, v));
        within("37 shelf", 0, 5, Check.BAD, v -> laid().row(v, 0, 1));
        within("38 shelf", 0, 5, Check.BAD, v -> laid().put(v, 0, 1));
        within("41 shelf", 0, 5, Check.BAD, v -> laid().taken(v, 0));
        within("41 k", 0, 7, Check.BAD, v -> laid().taken(2, v));
        within("40 shelf", 0, 5, Check.BAD, v -> laid().shift(v, 0, 3, 0, 1));
        within("40 other", 0, 5, Check.BAD, v -> laid().shift(3, 0, v, 0, 1));
        within("39 shelf", 0, 5, Check.NO_ELEMENT, v -> {
            EightLegs x = two();
            for (int shelf = 0; shelf <= 5; shelf++) {
                x.row(shelf, shelf % 5, 1);
            }
            return x.element(v, 0);
        });
        for (int call = 0; call <= 8; call++) {
            int which = call;
            within("9-18, 26, 27 shelf in " + call, 0, 5, Check.BAD, v -> ofRoutine(which, v));
        }
        within("10 shelf", 0, 5, Check.VOID, v -> onAll().off(v, 0, 0));
    }

    private static EightLegs onAll() {
        EightLegs x = two();
        for (int shelf = 0; shelf <= 5; shelf++) {
            x.row(shelf, 0, shelf);
        }
        return x;
    }

    private static long ofRoutine(int call, int shelf) {
        EightLegs x = onAll();
        switch (call) {
            case 0: return x.routine(shelf, 0);
            case 1: return x.apart(shelf, 0, 0);
            case 2: return x.gone(shelf, -1);
            case 3: return x.least(shelf, 0);
            case 4: return x.gasps(shelf, -1);
            case 5: return x.looks(shelf, -1);
            case 6: return x.slip(shelf, 0, 0) + x.drawn(shelf, 0, 100, 0) == -2 ? Check.BAD : 0;
            case 7: return x.whose(shelf, 1) + x.first(shelf, 1) == -2 ? Check.BAD : 0;
            default: return x.swim(shelf);
        }
    }

    private static void rows() {
        within("37 sort", 0, 4, Check.BAD, v -> laid().row(0, v, 1));
        for (int n = -3; n <= 63; n++) {
            for (int sort = 0; sort <= 4; sort++) {
                EightLegs x = two();
                c.due("37 n " + n, x.row(5, sort, n), n < 0 ? Check.BELOW_ZERO : n > 60 ? Check.BAD : 1);
                c.due("38 the last place of " + n, x.put(5, n - 1, 1), n < 0 || n > 60 ? Check.NOTHING : n == 0 ? Check.NO_PLACE : 1);
                c.due("38 the one behind it", x.put(5, n, 1), n < 0 || n > 60 ? Check.NOTHING : Check.NO_PLACE);
                c.due("39 the last one", x.element(5, n - 1), n < 1 || n > 60 ? Check.NO_ELEMENT : 1);
                c.due("39 the one behind it", x.element(5, n), Check.NO_ELEMENT);
            }
        }
        c.due("37 the least int", laid().row(0, 0, Check.LOW), Check.BELOW_ZERO);
        c.due("37 the greatest int", laid().row(0, 0, Check.HIGH), Check.BAD);
        within("38 i", 0, 59, Check.NO_PLACE, v -> laid().put(3, v, 1));
        within("39 i", 0, 59, Check.NO_ELEMENT, v -> laid().element(3, v));
    }

    /** Rows of 3 and of 4: all places and sizes from beside to beside. */
    private static void shift() {
        for (int i = -2; i <= 6; i++) {
            for (int j = -2; j <= 6; j++) {
                for (int n = -2; n <= 6; n++) {
                    EightLegs x = new EightLegs();
                    Check.lay(x, 0, 2, 11, 12, 13);
                    Check.lay(x, 1, 2, 21, 22, 23, 24);
                    boolean good = i >= 0 && j >= 0 && n >= 0 && i + n <= 3 && j + n <= 4;
                    String told = "40 " + n + " from " + i + " to " + j;
                    c.due(told, x.shift(0, i, 1, j, n), good ? n : Check.NO_PLACE);
                    for (int at = 0; at < 4; at++) {
                        boolean came = good && at >= j && at < j + n;
                        c.due(told + " at " + at, x.element(1, at), came ? 11 + i + at - j : 21 + at);
                    }
                    shiftWithin(i, j, n);
                }
            }
        }
        int[] far = {Check.LOW, Check.LOW + 1, -1, Check.HIGH - 1, Check.HIGH};
        for (int v : far) {
            c.due("40 from " + v, laid().shift(3, v, 3, 0, 1), Check.NO_PLACE);
            c.due("40 to " + v, laid().shift(3, 0, 3, v, 1), Check.NO_PLACE);
            c.due("40 so many: " + v, laid().shift(3, 0, 3, 0, v), Check.NO_PLACE);
            for (int w : far) {
                c.due("40 a sum that wraps", laid().shift(3, v, 3, 1, w), Check.NO_PLACE);
                c.due("40 a sum that wraps", laid().shift(3, 1, 3, v, w), Check.NO_PLACE);
                c.due("40 a sum that wraps", laid().shift(3, v, 3, v, w), Check.NO_PLACE);
            }
        }
    }

    private static void shiftWithin(int i, int j, int n) {
        EightLegs x = new EightLegs();
        Check.lay(x, 0, 3, 11, 12, 13, 14, 15);
        boolean good = i >= 0 && j >= 0 && n >= 0 && i + n <= 5 && j + n <= 5;
        String told = "40 the same row, " + n + " from " + i + " to " + j;
        c.due(told, x.shift(0, i, 0, j, n), good ? n : Check.NO_PLACE);
        for (int at = 0; at < 5; at++) {
            boolean came = good && at >= j && at < j + n;
            c.due(told + " at " + at, x.element(0, at), came ? 11 + i + at - j : 11 + at);
        }
    }

    private static void count() {
        within("42 what", 0, 4, Check.BAD, v -> laid().count(v));
    }
}
