/** Promises 36 to 42: shelves, rows and how many there are. */
public final class ShelvesTest {
    private static final Check c = new Check("ShelvesTest");
    private static final int[] NO_SHELF = {-1, 6, Check.LOW, Check.HIGH};

    private ShelvesTest() {
    }

    public static void main(String[] args) {
        keep();
        row();
        put();
        lowestBits();
        element();
        shift();
        shiftWithin();
        shiftRefused();
        taken();
        count();
        c.end();
    }

    private static EightLegs withBodies(int bodies) {
        EightLegs x = new EightLegs();
        for (int n = 0; n < bodies; n++) {
            x.body(n % 8);
        }
        return x;
    }

    private static void keep() {
        EightLegs x = withBodies(3);
        for (int shelf : NO_SHELF) {
            c.due("36 shelf " + shelf, x.keep(shelf, 0), Check.BAD);
        }
        int[] bodies = {-2, 3, 50, Check.LOW, Check.HIGH};
        for (int body : bodies) {
            c.due("36 body " + body, x.keep(0, body), Check.BAD);
        }
        c.due("36 nothing was kept", x.taken(0, 0), Check.NOTHING);
        for (int shelf = 0; shelf <= 5; shelf++) {
            c.due("36 a COUNT", x.keep(shelf, shelf % 3), 1);
        }
        for (int shelf = 0; shelf <= 5; shelf++) {
            c.due("36 each its own", x.taken(shelf, 0), shelf % 3);
        }
        c.due("36 nothing", x.keep(4, -1), 1);
        c.due("36 nothing is there", x.taken(4, 0), Check.NOTHING);
        c.due("36 nothing for a row", x.put(4, 0, 1), Check.NOTHING);
        x.row(4, 0, 5);
        c.due("36 a row gives way", x.keep(4, 1), 1);
        c.due("36 it is a COUNT", x.element(4, 0), Check.NO_ELEMENT);
        c.due("36 no body at all", new EightLegs().keep(0, 0), Check.BAD);
        c.due("36 nothing where nothing is", new EightLegs().keep(5, -1), 1);
    }

    private static void row() {
        EightLegs x = withBodies(1);
        for (int shelf : NO_SHELF) {
            c.due("37 shelf " + shelf, x.row(shelf, 0, 1), Check.BAD);
        }
        int[] sorts = {-1, 5, Check.LOW, Check.HIGH};
        for (int sort : sorts) {
            c.due("37 sort " + sort, x.row(0, sort, 1), Check.BAD);
            c.due("37 BAD ahead of -14", x.row(0, sort, -1), Check.BAD);
        }
        c.due("37 above 60", x.row(0, 0, 61), Check.BAD);
        c.due("37 far above", x.row(0, 0, Check.HIGH), Check.BAD);
        c.due("37 below 0", x.row(0, 0, -1), Check.BELOW_ZERO);
        c.due("37 far below 0", x.row(0, 4, Check.LOW), Check.BELOW_ZERO);
        c.due("37 BAD ahead of -14", x.row(6, 0, -1), Check.BAD);
        c.due("37 nothing there", x.put(0, 0, 1), Check.NOTHING);
        for (int sort = 0; sort <= 4; sort++) {
            c.due("37 sort " + sort, x.row(sort, sort, 60), 1);
            c.due("37 0 at first", x.element(sort, 0), 0);
            c.due("37 0 at first", x.element(sort, 59), 0);
            c.due("37 60 elements", x.element(sort, 60), Check.NO_ELEMENT);
            x.put(sort, 59, 1);
            x.put(sort, 0, 1);
            c.due("37 another row", x.row(sort, sort, 60), 1);
            c.due("37 0 at first", x.element(sort, 0) + x.element(sort, 59), 0);
        }
        x.put(2, 1, 77);
        c.due("37 a size below 0 leaves the old one", x.row(2, 0, -1), Check.BELOW_ZERO);
        c.due("37 the old one", x.element(2, 1), 77);
        c.due("37 a row of none", x.row(2, 0, 0), 1);
        c.due("37 no place in it", x.put(2, 0, 1), Check.NO_PLACE);
        x.keep(3, 0);
        c.due("37 a COUNT gives way", x.row(3, 1, 2), 1);
        c.due("37 it is a row", x.put(3, 1, 5), 1);
    }

    private static void put() {
        EightLegs x = withBodies(1);
        x.row(1, 2, 3);
        x.keep(2, 0);
        for (int shelf : NO_SHELF) {
            c.due("38 shelf " + shelf, x.put(shelf, 0, 1), Check.BAD);
            c.due("38 shelf " + shelf, x.put(shelf, -1, 1), Check.BAD);
        }
        int[] places = {-1, 3, 60, Check.LOW, Check.HIGH};
        for (int i : places) {
            c.due("38 nothing there", x.put(0, i, 1), Check.NOTHING);
            c.due("38 place " + i, x.put(1, i, 1), Check.NO_PLACE);
            c.due("38 a COUNT", x.put(2, i, 1), Check.OTHER_KIND);
        }
        for (int i = 0; i < 3; i++) {
            c.due("38 it is put", x.put(1, i, 10 + i), 1);
        }
        for (int i = 0; i < 3; i++) {
            c.due("39 it is there", x.element(1, i), 10 + i);
        }
    }

    private static void lowestBits() {
        long[] vs = {0, 1, 2, -1, 127, 128, 255, 256, -128, -129, 32767, 32768, 65536, -32769, 2147483647L, 2147483648L, 4294967296L,
            -2147483649L, Long.MAX_VALUE, Long.MIN_VALUE, 0x123456789abcdef0L};
        EightLegs x = new EightLegs();
        for (int sort = 0; sort <= 4; sort++) {
            x.row(sort, sort, 2);
            for (long v : vs) {
                long[] dues = {(byte) v, (short) v, (int) v, v, v == 0 ? 0 : 1};
                c.due("38 sort " + sort + " " + v, x.put(sort, 1, v), 1);
                c.due("39 sort " + sort + " " + v, x.element(sort, 1), dues[sort]);
                c.due("39 the one beside", x.element(sort, 0), 0);
            }
        }
    }

    private static void element() {
        EightLegs x = withBodies(1);
        x.row(1, 3, 2);
        x.keep(2, 0);
        for (int shelf : NO_SHELF) {
            c.due("39 shelf " + shelf, x.element(shelf, 0), Check.NO_ELEMENT);
        }
        int[] places = {-1, 2, 59, 60, Check.LOW, Check.HIGH};
        for (int i : places) {
            c.due("39 place " + i, x.element(1, i), Check.NO_ELEMENT);
        }
        c.due("39 nothing there", x.element(0, 0), Check.NO_ELEMENT);
        c.due("39 a COUNT", x.element(2, 0), Check.NO_ELEMENT);
        c.due("39 an element", x.element(1, 1), 0);
    }

    private static void row(EightLegs x, String told, int shelf, long... dues) {
        for (int i = 0; i < dues.length; i++) {
            c.due("40 " + told + " at " + i, x.element(shelf, i), dues[i]);
        }
        c.due("40 " + told + ": its end", x.element(shelf, dues.length), Check.NO_ELEMENT);
    }

    private static void shift() {
        for (int sort = 0; sort <= 4; sort++) {
            EightLegs x = new EightLegs();
            Check.lay(x, 0, sort, 1, 0, 1, 1);
            Check.lay(x, 5, sort, 0, 1, 0);
            c.due("40 two", x.shift(0, 2, 5, 1, 2), 2);
            row(x, "sort " + sort, 5, 0, 1, 1);
            row(x, "where they came from", 0, 1, 0, 1, 1);
        }
        EightLegs x = new EightLegs();
        Check.lay(x, 2, 3, Long.MAX_VALUE, 7);
        Check.lay(x, 1, 3, 5);
        c.due("40 a long", x.shift(2, 0, 1, 0, 1), 1);
        c.due("40 all of its bits", x.element(1, 0), Long.MAX_VALUE);
        c.due("40 none", x.shift(2, 2, 1, 1, 0), 0);
        c.due("40 none of none", x.row(3, 3, 0) + x.shift(3, 0, 3, 0, 0), 1);
        row(x, "all as it was", 2, Long.MAX_VALUE, 7);
    }

    private static void shiftWithin() {
        EightLegs x = new EightLegs();
        Check.lay(x, 4, 0, 1, 2, 3, 4, 5, 6);
        c.due("40 up", x.shift(4, 0, 4, 2, 4), 4);
        row(x, "as they all were before", 4, 1, 2, 1, 2, 3, 4);
        c.due("40 down", x.shift(4, 2, 4, 1, 4), 4);
        row(x, "as they all were before", 4, 1, 1, 2, 3, 4, 4);
        c.due("40 where it is", x.shift(4, 0, 4, 0, 6), 6);
        row(x, "as they all were before", 4, 1, 1, 2, 3, 4, 4);
    }

    private static void shiftRefused() {
        EightLegs x = withBodies(1);
        Check.lay(x, 0, 0, 1, 2, 3);
        Check.lay(x, 1, 0, 4, 5);
        Check.lay(x, 2, 1, 6, 7, 8);
        x.keep(3, 0);
        for (int shelf : NO_SHELF) {
            c.due("40 shelf " + shelf, x.shift(shelf, 0, 0, 0, 1), Check.BAD);
            c.due("40 other " + shelf, x.shift(0, 0, shelf, 0, 1), Check.BAD);
            c.due("40 BAD ahead of -11", x.shift(4, 0, shelf, 0, 1), Check.BAD);
        }
        c.due("40 nothing there", x.shift(4, 0, 0, 0, 1), Check.NOTHING);
        c.due("40 nothing there", x.shift(0, 0, 4, 0, 1), Check.NOTHING);
        c.due("40 nothing on either", x.shift(4, 0, 5, 9, 1), Check.NOTHING);
        c.due("40 -11 ahead of -12", x.shift(3, 0, 4, 0, 1), Check.NOTHING);
        c.due("40 -11 ahead of -12", x.shift(4, 0, 3, 0, 1), Check.NOTHING);
        c.due("40 a COUNT", x.shift(3, 0, 0, 0, 1), Check.OTHER_KIND);
        c.due("40 a COUNT", x.shift(0, 0, 3, 0, 1), Check.OTHER_KIND);
        c.due("40 COUNTS", x.shift(3, 0, 3, 0, 0), Check.OTHER_KIND);
        c.due("40 unlike sorts", x.shift(0, 0, 2, 0, 1), Check.OTHER_KIND);
        c.due("40 -12 ahead of -13", x.shift(0, 9, 2, 0, 1), Check.OTHER_KIND);
        int[][] places = {{-1, 0, 1}, {0, -1, 1}, {3, 0, 1}, {0, 2, 1}, {2, 0, 2}, {0, 1, 2}, {0, 0, 3}, {4, 0, 0}, {0, 3, 0},
            {1, 1, -1}, {0, 0, -1}, {0, 0, Check.LOW}, {0, 0, Check.HIGH}, {Check.HIGH, 0, 1}, {0, Check.HIGH, 1}, {Check.LOW, 0, 1},
            {0, Check.LOW, 1}, {Check.HIGH, Check.HIGH, Check.HIGH}, {1, 1, Check.HIGH}};
        for (int[] p : places) {
            c.due("40 places " + p[0] + ", " + p[1] + ", " + p[2], x.shift(0, p[0], 1, p[1], p[2]), Check.NO_PLACE);
        }
        row(x, "nothing came", 1, 4, 5);
        c.due("40 all of it fits", x.shift(0, 1, 1, 0, 2), 2);
    }

    private static void taken() {
        EightLegs x = withBodies(8);
        boolean[][] under = new boolean[8][8];
        int[] above = {-1, 0, 0, 2, 1, 3, 0, 4};
        for (int kind = 0; kind < 8; kind++) {
            for (int up = kind; up >= 0; up = above[up]) {
                under[kind][up] = true;
            }
        }
        for (int kind = 0; kind < 8; kind++) {
            x.keep(kind % 6, kind);
            for (int k = 0; k < 8; k++) {
                c.due("41 " + kind + " for " + k, x.taken(kind % 6, k), under[kind][k] ? kind : Check.OTHER_KIND);
            }
            int[] kinds = {-1, 8, Check.LOW, Check.HIGH};
            for (int k : kinds) {
                c.due("41 k " + k, x.taken(kind % 6, k), Check.BAD);
            }
        }
        for (int shelf : NO_SHELF) {
            c.due("41 shelf " + shelf, x.taken(shelf, 0), Check.BAD);
        }
        x.keep(0, -1);
        c.due("41 nothing", x.taken(0, 0), Check.NOTHING);
        c.due("41 BAD ahead of -11", x.taken(0, 8), Check.BAD);
        for (int sort = 0; sort <= 4; sort++) {
            x.row(0, sort, 3);
            c.due("41 a row", x.taken(0, 0), Check.OTHER_KIND);
        }
    }

    private static void count() {
        EightLegs x = withBodies(4);
        x.swimmer(0, 5);
        x.swimmer(0, 5);
        x.feed('o');
        x.mend(0, 0, 1);
        x.mend(0, 0, 2);
        x.mend(0, 0, 3);
        x.act(3, 3, 0);
        int[] dues = {2, 1, 3, 4, 7};
        for (int what = 0; what <= 4; what++) {
            c.due("42 what " + what, x.count(what), dues[what]);
        }
        int[] whats = {-1, 5, Check.LOW, Check.HIGH};
        for (int what : whats) {
            c.due("42 what " + what, x.count(what), Check.BAD);
        }
        x.undo();
        c.due("42 may be UNDONE", x.count(2), 2);
        x.redo();
        c.due("42 may be UNDONE", x.count(2), 3);
        x.trace(0);
        c.due("42 the latest act's", x.count(4), 7);
    }
}
