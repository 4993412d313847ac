/** Promises 1 to 5: a new object, and its swimmers. */
public final class SwimmersTest {
    private static final Check c = new Check("SwimmersTest");

    private SwimmersTest() {
    }

    public static void main(String[] args) {
        aNewObject();
        swimmer();
        swimmers();
        swimmersFromPlacesThatAreNotThere();
        swimmersFromRowsThatLackOrEnd();
        mend();
        mendWrong();
        of();
        c.end();
    }

    private static void aNewObject() {
        EightLegs x = new EightLegs();
        for (int what = 0; what <= 4; what++) {
            c.due("1 count(" + what + ")", x.count(what), 0);
        }
        for (int shelf = 0; shelf <= 5; shelf++) {
            c.due("1 nothing on shelf " + shelf, x.put(shelf, 0, 1), Check.NOTHING);
        }
        for (int what = 0; what <= 4; what++) {
            c.due("1 led(" + what + ")", x.led(what), 0);
        }
        c.due("1 LEADER", x.of(0, 6), 0);
        c.due("1 SEEN", x.of(0, 7), 25);
        c.due("1 GASP", x.of(0, 8), 1);
        c.due("1 undo", x.undo(), Check.STATE);
        c.due("1 redo", x.redo(), Check.STATE);
        c.due("1 back", x.back(), Check.STATE);
        c.due("1 trace", x.trace(0), Check.BAD);
        c.due("1 another object is another pool", new EightLegs().count(0) + Check.pool(3).count(0), 3);
    }

    private static void swimmer() {
        EightLegs x = new EightLegs();
        c.due("2 the first", x.swimmer(1502, 9), 0);
        c.due("2 X", x.of(0, 0), 2);
        c.due("2 Y", x.of(0, 1), 15);
        c.due("2 TALL", x.of(0, 2), 9);
        c.due("2 BREATH", x.of(0, 3), 12);
        c.due("2 QUICK", x.of(0, 4), 0);
        c.due("2 LATE", x.of(0, 5), 0);
        c.due("2 TIRED", x.of(0, 9), 0);
        c.due("2 GASPED", x.of(0, 10), 0);
        c.due("2 the second", x.swimmer(15, 1), 1);
        c.due("2 X 15", x.of(1, 0), 15);
        c.due("2 Y 0", x.of(1, 1), 0);
        int[] wrong = {-1, -100, 16, 99, 116, 1516, 1600, 1615, Check.LOW, Check.HIGH};
        for (int xy : wrong) {
            c.due("2 xy " + xy, x.swimmer(xy, 5), Check.BAD);
        }
        int[] tall = {0, -1, 10, Check.LOW, Check.HIGH};
        for (int t : tall) {
            c.due("2 tall " + t, x.swimmer(0, t), Check.BAD);
        }
        c.due("2 nobody came by it", x.count(0), 2);
        c.due("2 the corner", x.swimmer(1515, 5), 2);
        for (int one = 3; one < 8; one++) {
            c.due("2 number", x.swimmer(0, 5), one);
        }
        c.due("2 FULL", x.swimmer(0, 5), Check.FULL);
        c.due("2 BAD ahead of FULL", x.swimmer(0, 10), Check.BAD);
        c.due("2 eight", x.count(0), 8);
        c.due("2 swimmers are no changes", x.undo(), Check.STATE);
    }

    private static void swimmers() {
        EightLegs x = new EightLegs();
        Check.lay(x, 3, 0, 77, 1, 2, 3, -9, 15, 0, 9, 9, 4, 5, 1, 0);
        c.due("3 two of three", x.swimmers(3, 1, 2), 2);
        int[] first = {1, 2, 3, 12, -9, 0};
        int[] second = {15, 0, 9, 12, 9, 0};
        for (int what = 0; what <= 5; what++) {
            c.due("3 the first's " + what, x.of(0, what), first[what]);
            c.due("3 the second's " + what, x.of(1, what), second[what]);
        }
        c.due("3 one more from another place", x.swimmers(3, 9, 1), 1);
        c.due("3 her X", x.of(2, 0), 4);
        c.due("3 three", x.count(0), 3);
        c.due("3 no change", x.count(2), 0);
        int[] n = {0, -1, 9, Check.LOW, Check.HIGH};
        for (int many : n) {
            c.due("3 n " + many, x.swimmers(3, 1, many), Check.BAD);
        }
        int[] shelves = {-1, 6, Check.LOW, Check.HIGH};
        for (int shelf : shelves) {
            c.due("3 shelf " + shelf, x.swimmers(shelf, 1, 1), Check.BAD);
        }
        c.due("3 place -1", x.swimmers(3, -1, 1), 0);
        c.due("3 still three", x.count(0), 3);
        c.due("3 one of three, and she is wrong", x.swimmers(3, 0, 1), 0);
        c.due("3 n 8", x.swimmers(3, 1, 8), 3);
        c.due("3 six", x.count(0), 6);
        c.due("3 until they are FULL", x.swimmers(3, 1, 8), 2);
        c.due("3 FULL", x.swimmers(3, 1, 1), 0);
        c.due("3 eight", x.count(0), 8);
    }

    private static void swimmersFromPlacesThatAreNotThere() {
        int[] below = {-1, -3, -4, -8, -60, -61, Check.LOW, Check.LOW + 3};
        int[] beyond = {8, 9, 12, 59, 60, 61, Check.HIGH - 3, Check.HIGH};
        for (int[] places : new int[][] {below, beyond}) {
            for (int i : places) {
                for (int n : new int[] {1, 2, 8}) {
                    c.due("3 nothing held, place " + i, new EightLegs().swimmers(0, i, n), 0);
                    swimmersFromRowsAtNoPlace(i, n);
                }
                for (int n : new int[] {0, 9, -1, Check.LOW, Check.HIGH}) {
                    c.due("3 BAD n, place " + i, new EightLegs().swimmers(0, i, n), Check.BAD);
                }
                c.due("3 BAD shelf, place " + i, new EightLegs().swimmers(6, i, 1), Check.BAD);
                c.due("3 BAD shelf, place " + i, new EightLegs().swimmers(-1, i, 1), Check.BAD);
            }
        }
    }

    private static void swimmersFromRowsAtNoPlace(int i, int n) {
        EightLegs x = new EightLegs();
        Check.lay(x, 0, 0, 1, 1, 1, 1, 2, 2, 2, 2);
        c.due("3 bytes, place " + i, x.swimmers(0, i, n), 0);
        c.due("3 nobody came", x.count(0), 0);
        x.row(1, 0, 0);
        c.due("3 a row of none, place " + i, x.swimmers(1, i, n), 0);
        x.row(2, 0, 60);
        c.due("3 the longest row, not so, place " + i, x.swimmers(2, i, n), 0);
        for (int sort = 1; sort <= 4; sort++) {
            Check.lay(x, 3, sort, 1, 1, 1, 1, 2, 2, 2, 2);
            c.due("3 sort " + sort + ", place " + i, x.swimmers(3, i, n), Check.OTHER_KIND);
        }
        x.body(0);
        x.keep(4, 0);
        c.due("3 a COUNT, place " + i, x.swimmers(4, i, n), Check.OTHER_KIND);
        x.keep(4, -1);
        c.due("3 nothing again, place " + i, x.swimmers(4, i, n), 0);
        c.due("3 the row is still there", x.swimmers(0, 0, 2), 2);
        while (x.swimmer(0, 5) != Check.FULL) {
            c.due("3 more come", x.count(0) <= 8 ? 1 : 0, 1);
        }
        c.due("3 FULL, place " + i, x.swimmers(0, i, n), 0);
        c.due("3 FULL, nothing held, place " + i, x.swimmers(5, i, n), 0);
        c.due("3 FULL, another kind, place " + i, x.swimmers(3, i, n), Check.OTHER_KIND);
    }

    private static void swimmersFromRowsThatLackOrEnd() {
        EightLegs x = new EightLegs();
        c.due("3 a row that is missing", x.swimmers(0, 0, 1), 0);
        c.due("3 BAD ahead of it", x.swimmers(0, 0, 9), Check.BAD);
        for (int sort = 1; sort <= 4; sort++) {
            Check.lay(x, 0, sort, 1, 1, 1, 1);
            c.due("3 sort " + sort, x.swimmers(0, 0, 1), Check.OTHER_KIND);
            c.due("3 BAD ahead of -12", x.swimmers(0, 0, 0), Check.BAD);
        }
        x.body(0);
        x.keep(0, 0);
        c.due("3 a COUNT", x.swimmers(0, 0, 1), Check.OTHER_KIND);
        Check.lay(x, 0, 0, 1, 1, 1, 1, 2, 2, 2);
        c.due("3 it ends within a four", x.swimmers(0, 0, 3), 1);
        c.due("3 one came", x.count(0), 1);
        c.due("3 from behind on", x.swimmers(0, 4, 1), 0);
        c.due("3 at its end", x.swimmers(0, 7, 1), 0);
        c.due("3 beyond its end", x.swimmers(0, 8, 1), 0);
        c.due("3 far beyond its end", x.swimmers(0, Check.HIGH, 8), 0);
        c.due("3 from place 3 on, the whole four", x.swimmers(0, 3, 1), 1);
        EightLegs full = new EightLegs();
        full.row(1, 0, 60);
        full.put(1, 56, 3);
        full.put(1, 58, 4);
        c.due("3 the last four of a row of 60", full.swimmers(1, 56, 8), 1);
        c.due("3 her X", full.of(0, 0), 3);
        c.due("3 within the last four", full.swimmers(1, 57, 8), 0);
        long[][] wrong = {{16, 0, 1, 0}, {-1, 0, 1, 0}, {0, 16, 1, 0}, {0, -1, 1, 0}, {0, 0, 0, 0}, {0, 0, 10, 0}, {0, 0, 1, 10}, {0, 0, 1, -10}};
        for (long[] four : wrong) {
            EightLegs y = new EightLegs();
            Check.lay(y, 2, 0, 3, 4, 5, 6, four[0], four[1], four[2], four[3], 7, 8, 9, 1);
            c.due("3 one is not so", y.swimmers(2, 0, 3), 1);
            c.due("3 those ahead came", y.count(0), 1);
            c.due("3 those behind may come", y.swimmers(2, 8, 1), 1);
            c.due("3 her Y", y.of(1, 1), 8);
        }
    }

    private static void mend() {
        int[] least = {0, 0, 1, 1, -9, 0, 0, 1, 1};
        int[] most = {15, 15, 9, 60, 9, 99, 7, 999, 9};
        int[] atFirst = {3, 2, 7, 12, 0, 0, 0, 25, 1};
        for (int what = 0; what <= 8; what++) {
            EightLegs x = Check.pool(1);
            x.swimmer(203, 7);
            int number = what <= 5 ? 1 : 0;
            c.due("4 below", x.mend(number, what, least[what] - 1), Check.VOID);
            c.due("4 above", x.mend(number, what, most[what] + 1), Check.VOID);
            c.due("4 far below", x.mend(number, what, Check.LOW), Check.VOID);
            c.due("4 far above", x.mend(number, what, Check.HIGH), Check.VOID);
            c.due("4 nothing changed", x.count(2), 0);
            c.due("4 the least of " + what, x.mend(number, what, least[what]), atFirst[what]);
            c.due("4 the most of " + what, x.mend(number, what, most[what]), least[what]);
            c.due("5 it is kept", x.of(number, what), most[what]);
            for (int other = 0; other <= 8; other++) {
                if (other != what) {
                    c.due("4 the others stay", x.of(other <= 5 ? 1 : 0, other), atFirst[other]);
                }
            }
            c.due("4 swimmer 0's stay", what <= 5 ? x.of(0, what) : 0, what <= 5 ? Check.pool(1).of(0, what) : 0);
        }
    }

    private static void mendWrong() {
        EightLegs x = Check.pool(2);
        int[] numbers = {-1, 2, 8, Check.LOW, Check.HIGH};
        for (int number : numbers) {
            for (int what = 0; what <= 8; what++) {
                c.due("4 no such " + number, x.mend(number, what, 1), Check.VOID);
            }
        }
        for (int what = 6; what <= 8; what++) {
            c.due("4 number 0 for " + what, x.mend(1, what, 1), Check.VOID);
            c.due("5 number 0 for " + what, x.of(1, what), Check.VOID);
        }
        int[] whats = {-1, 9, 10, 11, Check.LOW, Check.HIGH};
        for (int what : whats) {
            c.due("4 no such what", x.mend(0, what, 1), Check.VOID);
        }
        c.due("4 nothing changed", x.count(2), 0);
        c.due("4 LEADER without swimmers", new EightLegs().mend(0, 6, 7), 0);
        c.due("4 X without swimmers", new EightLegs().mend(0, 0, 1), Check.VOID);
    }

    private static void of() {
        EightLegs x = Check.pool(2);
        int[] numbers = {-1, 2, Check.LOW, Check.HIGH};
        for (int number : numbers) {
            for (int what = 0; what <= 10; what++) {
                c.due("5 no such " + number, x.of(number, what), Check.VOID);
            }
        }
        int[] whats = {-1, 11, Check.LOW, Check.HIGH};
        for (int what : whats) {
            c.due("5 no such what", x.of(0, what), Check.VOID);
        }
        x.mend(1, 3, 1);
        Check.routine(x, "11211");
        x.swim(0);
        c.due("5 TIRED", x.of(0, 9), 5);
        c.due("5 not GASPED", x.of(0, 10), 0);
        c.due("5 GASPED", x.of(1, 10), 1);
        c.due("5 TIRED without swimmers", new EightLegs().of(0, 9), Check.VOID);
    }
}
