/** Promises 27 to 32: swimming in deed, an image, changes undone. */
public final class DeedsTest {
    private static final Check c = new Check("DeedsTest");

    private DeedsTest() {
    }

    public static void main(String[] args) {
        swim();
        rests();
        ledWrong();
        image();
        imageWithSwimmersSince();
        undo();
        redo();
        fortyChanges();
        fortyUnlikeChanges();
        undoAcrossAll();
        c.end();
    }

    private static void led(EightLegs x, String when, int... dues) {
        for (int what = 0; what < dues.length; what++) {
            c.due("28 " + when + ", " + what, x.led(what), dues[what]);
        }
    }

    private static void swim() {
        EightLegs x = Check.pool(3);
        x.mend(1, 3, 2);
        x.mend(2, 4, 9);
        x.mend(0, 7, 10);
        Check.routine(x, "0121340");
        // apart 9, 18, 27, 36, 45, 0, 9 of two twos: 0 + 1 + 2 * 2 + 3 + 4 + 5 .. the look is the sixth
        c.due("27 MARKS", x.swim(0), 2 * (0 + 1 + 2 * 2 + 3 + 4));
        led(x, "one", 1, 7, 24, 1, 0);
        c.due("5 TIRED", x.of(0, 9), 3);
        c.due("5 TIRED", x.of(1, 9), 3);
        c.due("5 GASPED", x.of(0, 10), 0);
        c.due("5 GASPED", x.of(1, 10), 1);
        x.mend(2, 3, 1);
        Check.routine(x, "22");
        c.due("27 MARKS with legs up: 9, 18", x.swim(0), 2 * 2);
        led(x, "two", 2, 9, 28, 2, 0);
        c.due("5 TIRED", x.of(0, 9), 5);
        c.due("5 GASPED, as before", x.of(1, 10), 1);
        c.due("5 GASPED", x.of(2, 10), 1);
        c.due("27 another shelf", x.swim(1), Check.NOTHING);
        c.due("27 BAD", x.swim(6), Check.BAD);
        led(x, "not swum", 2, 9, 28, 2, 0);
        Check.routine(x, "");
        c.due("27 no counts", x.swim(0), 0);
        led(x, "three", 3, 9, 28, 2, 0);
        EightLegs none = new EightLegs();
        Check.routine(none, "0011");
        c.due("27 nobody", none.swim(0), 0);
        led(none, "nobody", 1, 4, 0, 0, 0);
        c.due("42 deeds are no changes", none.count(2), 0);
    }

    private static void rests() {
        EightLegs x = Check.pool(1);
        x.row(0, 0, 60);
        for (int k = 0; k < 33; k++) {
            x.put(0, k, k % 2 + 1);
        }
        x.swim(0);
        x.swim(0);
        x.swim(0);
        c.due("27 99 is no rest", x.of(0, 9), 99);
        x.swimmer(0, 5);
        Check.routine(x, "1");
        x.swim(0);
        c.due("27 100 is one", x.of(0, 9), 0);
        c.due("27 the other one has none", x.of(1, 9), 1);
        c.due("28 rests", x.led(4), 1);
        x.row(0, 0, 60);
        for (int k = 0; k < 60; k++) {
            x.put(0, k, 1);
        }
        x.swim(0);
        c.due("27 60", x.of(0, 9), 60);
        c.due("27 61", x.of(1, 9), 61);
        x.swim(0);
        c.due("27 all of it is gone", x.of(0, 9), 0);
        c.due("27 all of it is gone", x.of(1, 9), 0);
        c.due("28 rests of each", x.led(4), 3);
        c.due("28 gasps of each", x.led(3), 7);
        c.due("5 GASPED", x.of(0, 10), 5);
    }

    private static void ledWrong() {
        EightLegs x = Check.pool(1);
        int[] whats = {-1, 5, Check.LOW, Check.HIGH};
        for (int what : whats) {
            c.due("28 what " + what, x.led(what), Check.BAD);
        }
    }

    private static void image() {
        EightLegs x = Check.pool(2);
        x.mend(0, 3, 1);
        x.mend(1, 4, 9);
        x.mend(0, 7, 9);
        Check.routine(x, "11");
        c.due("30 there is none", x.back(), Check.STATE);
        x.swim(0);
        c.due("29 routines", x.image(), 1);
        x.swim(0);
        x.swim(0);
        x.mend(0, 7, 5);
        c.due("30 routines", x.back(), 1);
        led(x, "laid back", 1, 2, 3, 1, 0);
        c.due("30 TIRED", x.of(0, 9), 2);
        c.due("30 GASPED", x.of(0, 10), 1);
        c.due("30 numbers of mend() stay", x.of(0, 7), 5);
        c.due("30 and may be undone", x.undo(), 3);
        x.swim(0);
        c.due("30 laid back once more", x.back(), 1);
        c.due("30 TIRED", x.of(0, 9), 2);
        x.swim(0);
        c.due("29 another one", x.image(), 2);
        x.swim(0);
        c.due("30 the latest one", x.back(), 2);
        c.due("30 TIRED", x.of(0, 9), 4);
        EightLegs y = Check.pool(1);
        c.due("29 of nothing yet", y.image(), 0);
        Check.routine(y, "1");
        y.swim(0);
        c.due("30 nothing again", y.back(), 0);
        led(y, "nothing again", 0, 0, 0, 0, 0);
    }

    private static void imageWithSwimmersSince() {
        EightLegs x = Check.pool(1);
        x.mend(0, 3, 1);
        Check.routine(x, "11");
        x.swim(0);
        x.image();
        x.swimmer(0, 5);
        x.mend(1, 3, 1);
        x.swim(0);
        c.due("27 GASPED", x.of(1, 10), 1);
        x.back();
        c.due("30 who came since: TIRED", x.of(1, 9), 0);
        c.due("30 who came since: GASPED", x.of(1, 10), 0);
        c.due("30 who came since stays", x.count(0), 2);
        c.due("30 the other one: TIRED", x.of(0, 9), 2);
        c.due("30 the other one: GASPED", x.of(0, 10), 1);
    }

    private static void undo() {
        EightLegs x = Check.pool(1);
        c.due("31 none", x.undo(), Check.STATE);
        c.due("32 none", x.redo(), Check.STATE);
        x.mend(0, 0, 4);
        x.mend(0, 0, 6);
        x.mend(0, 8, 3);
        c.due("4 the same number", x.mend(0, 8, 3), 3);
        c.due("4 is no change", x.count(2), 3);
        c.due("31 two", x.undo(), 2);
        c.due("31 the latest first", x.of(0, 8), 1);
        c.due("31 one", x.undo(), 1);
        c.due("31 as it was ahead of it", x.of(0, 0), 4);
        c.due("32 none can be done again", x.count(2), 1);
        c.due("31 the first", x.undo(), 0);
        c.due("31 as at first", x.of(0, 0), 0);
        c.due("31 no more", x.undo(), Check.STATE);
    }

    private static void redo() {
        EightLegs x = Check.pool(1);
        x.mend(0, 0, 4);
        x.mend(0, 1, 6);
        x.mend(0, 2, 8);
        c.due("32 none is undone", x.redo(), Check.STATE);
        x.undo();
        x.undo();
        x.undo();
        c.due("32 two more", x.redo(), 2);
        c.due("32 the first is done again", x.of(0, 0), 4);
        c.due("32 the second is not", x.of(0, 1), 0);
        c.due("32 one more", x.redo(), 1);
        c.due("42 two may be undone", x.count(2), 2);
        c.due("4 the same number cuts nothing", x.mend(0, 0, 4), 4);
        c.due("4 nor does a wrong one", x.mend(0, 0, 16), Check.VOID);
        c.due("32 the last", x.redo(), 0);
        c.due("32 done again", x.of(0, 2), 8);
        c.due("32 no more", x.redo(), Check.STATE);
        x.undo();
        c.due("4 another change", x.mend(0, 0, 5), 4);
        c.due("32 as long as no other came behind", x.redo(), Check.STATE);
        c.due("31 it is the latest", x.undo(), 2);
        c.due("31 undone", x.of(0, 0), 4);
        c.due("32 and done again", x.redo(), 0);
        c.due("32 done again", x.of(0, 0), 5);
        x.undo();
        c.due("31 the one ahead of it", x.undo(), 1);
        c.due("31 undone", x.of(0, 1), 0);
        c.due("2 a swimmer is no change", x.swimmer(0, 1), 1);
        c.due("32 it can be done again still", x.redo(), 1);
    }

    private static void fortyChanges() {
        EightLegs x = Check.pool(1);
        for (int v = 1; v <= 40; v++) {
            x.mend(0, 5, v);
        }
        c.due("42 forty", x.count(2), 40);
        x.mend(0, 5, 41);
        x.mend(0, 5, 42);
        c.due("42 40 at most", x.count(2), 40);
        for (int left = 39; left >= 0; left--) {
            c.due("31 left", x.undo(), left);
            c.due("31 LATE", x.of(0, 5), left + 2);
        }
        c.due("31 those ahead are forgotten", x.undo(), Check.STATE);
        for (int left = 39; left >= 0; left--) {
            c.due("32 left", x.redo(), left);
        }
        c.due("32 LATE", x.of(0, 5), 42);
        x.undo();
        x.mend(0, 3, 1);
        c.due("42 forty again", x.count(2), 40);
        c.due("31 LATE is still 41", x.of(0, 5), 41);
        x.undo();
        c.due("31 BREATH", x.of(0, 3), 12);
        c.due("31 LATE is still 41", x.of(0, 5), 41);
    }

    /** Those kept are kept whole when the oldest are forgotten. */
    private static void fortyUnlikeChanges() {
        EightLegs x = Check.pool(4);
        int[] numbers = new int[45];
        int[] whats = new int[45];
        for (int i = 0; i < 45; i++) {
            numbers[i] = i * 3 % 4;
            whats[i] = i % 2 == 0 ? 5 : 0;
            x.mend(numbers[i], whats[i], i % 15 + 1);
        }
        for (int left = 39; left >= 0; left--) {
            c.due("31 as told", x.of(numbers[left + 5], whats[left + 5]), (left + 5) % 15 + 1);
            c.due("31 left", x.undo(), left);
        }
        for (int i = 5; i < 45; i++) {
            c.due("32 left", x.redo(), 44 - i);
            c.due("32 as told", x.of(numbers[i], whats[i]), i % 15 + 1);
        }
    }

    /** Each number that mend() tells, of two swimmers. */
    private static void undoAcrossAll() {
        EightLegs x = Check.pool(2);
        int[] atFirst = {0, 0, 5, 12, 0, 0, 0, 25, 1};
        for (int what = 0; what <= 8; what++) {
            x.mend(what <= 5 ? 1 : 0, what, 7);
        }
        for (int what = 8; what >= 0; what--) {
            int number = what <= 5 ? 1 : 0;
            c.due("4 told", x.of(number, what), 7);
            c.due("31 left", x.undo(), what);
            c.due("31 undone", x.of(number, what), atFirst[what]);
        }
        for (int what = 0; what <= 8; what++) {
            int number = what <= 5 ? 1 : 0;
            c.due("32 left", x.redo(), 8 - what);
            c.due("32 done again", x.of(number, what), 7);
            c.due("32 the other one is not", x.of(0, what), what <= 5 ? atFirst[what] : 7);
        }
    }
}
