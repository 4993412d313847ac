import java.util.List;
import java.util.function.Supplier;
import java.util.function.ToLongFunction;

/** "What is answered so changes nothing": each refusal of each call, and each call that only asks. */
public final class RefusedTest {
    private static final Check c = new Check("RefusedTest");
    private static final int[] NO_SHELF = {-1, 6, Check.LOW, Check.HIGH};
    /** Of the shelves of a full pool: a routine, ripples, a COUNT, nothing, longs, a routine of 17 counts. */
    private static final int ROUTINE = 0, RIPPLES = 1, COUNT = 2, EMPTY = 3, LONGS = 4, LONG_ROUTINE = 5;

    private static Supplier<EightLegs> made;
    private static List<Long> asMade;

    private RefusedTest() {
    }

    public static void main(String[] args) {
        begin(RefusedTest::fullPool);
        c.due("the setting shows what it should", asMade.size() > 300 ? 1 : 0, 1);
        swimmers();
        mendAndOf();
        tapeAndLaw();
        routinesOnNoRoutine();
        routinesWithOtherNumbers();
        tooLong();
        ground();
        ripples();
        drawnAndLed();
        bodies();
        keepAndRow();
        putAndElement();
        shift();
        takenAndCount();
        asking();
        begin(RefusedTest::fullTape);
        same("6 FULL", Check.FULL, x -> x.feed('o'));
        same("6 BAD", Check.BAD, x -> x.feed(256));
        begin(EightLegs::new);
        same("30 STATE", Check.STATE, EightLegs::back);
        same("31 STATE", Check.STATE, EightLegs::undo);
        same("32 STATE", Check.STATE, EightLegs::redo);
        same("34 no bodies", 0, x -> x.act(0, 0, 1));
        begin(RefusedTest::changed);
        same("32 STATE, nothing is undone", Check.STATE, EightLegs::redo);
        begin(RefusedTest::undone);
        same("31 STATE, all is undone", Check.STATE, EightLegs::undo);
        c.end();
    }

    private static void begin(Supplier<EightLegs> maker) {
        made = maker;
        asMade = Everything.of(made.get());
        c.due("two alike are seen alike", asMade.equals(Everything.of(made.get())) ? 1 : 0, 1);
    }

    private static void same(String told, long due, ToLongFunction<EightLegs> call) {
        EightLegs x = made.get();
        c.due(told, call.applyAsLong(x), due);
        c.due(told + ", and nothing changed", asMade.equals(Everything.of(x)) ? 1 : 0, 1);
    }

    private static EightLegs fullPool() {
        EightLegs x = new EightLegs();
        for (int one = 0; one < 8; one++) {
            x.swimmer(100 * one + one / 2, 1 + one);
        }
        x.mend(0, 4, 2);
        x.mend(1, 5, 10);
        x.mend(7, 3, 1);
        x.mend(0, 7, 5);
        x.mend(0, 8, 2);
        x.undo();
        Check.routine(x, "0114201");
        // what is so of the routine of 17 counts, and not of the other one, which has a look
        Check.lay(x, RIPPLES, 1, 12, 14, 16, 18);
        for (int n = 0; n < 50; n++) {
            x.body(n % 8);
        }
        x.keep(COUNT, 3);
        Check.lay(x, LONGS, 3, 7, Long.MAX_VALUE);
        x.row(LONG_ROUTINE, 0, 17);
        x.swim(ROUTINE);
        x.image();
        x.swim(ROUTINE);
        Check.law(x, "o/s+e");
        x.feed('(');
        x.feed('k');
        x.act(7, 3, 5);
        return x;
    }

    private static EightLegs fullTape() {
        EightLegs x = Check.pool(2);
        for (int i = 0; i < 120; i++) {
            x.feed(i % 2 == 0 ? 'o' : '+');
        }
        return x;
    }

    private static EightLegs changed() {
        EightLegs x = Check.pool(1);
        x.mend(0, 4, 1);
        return x;
    }

    private static EightLegs undone() {
        EightLegs x = changed();
        x.undo();
        return x;
    }

    private static void swimmers() {
        same("2 FULL", Check.FULL, x -> x.swimmer(0, 5));
        same("2 BAD X", Check.BAD, x -> x.swimmer(16, 5));
        same("2 BAD Y", Check.BAD, x -> x.swimmer(1600, 5));
        same("2 BAD TALL", Check.BAD, x -> x.swimmer(0, 10));
        same("3 BAD n", Check.BAD, x -> x.swimmers(ROUTINE, 0, 9));
        for (int shelf : NO_SHELF) {
            same("3 BAD shelf", Check.BAD, x -> x.swimmers(shelf, 0, 1));
        }
        same("3 shorts", Check.OTHER_KIND, x -> x.swimmers(RIPPLES, 0, 1));
        same("3 a COUNT", Check.OTHER_KIND, x -> x.swimmers(COUNT, 0, 1));
        same("3 missing", 0, x -> x.swimmers(EMPTY, 0, 1));
        same("3 FULL", 0, x -> x.swimmers(LONG_ROUTINE, 0, 1));
    }

    private static void mendAndOf() {
        int[] least = {0, 0, 1, 1, -9, 0, 0, 1, 1};
        int[] most = {15, 15, 9, 60, 9, 99, 7, 999, 9};
        for (int what = 0; what <= 8; what++) {
            int which = what;
            same("4 VOID below", Check.VOID, x -> x.mend(0, which, least[which] - 1));
            same("4 VOID above", Check.VOID, x -> x.mend(0, which, most[which] + 1));
            same("4 VOID number", Check.VOID, x -> x.mend(8, which, 1));
            same("4 VOID number", Check.VOID, x -> x.mend(-1, which, 1));
            int now = fullPool().of(0, which);
            same("4 the same number", now, x -> x.mend(0, which, now));
        }
        same("4 VOID what", Check.VOID, x -> x.mend(0, 9, 1));
        same("4 VOID what", Check.VOID, x -> x.mend(0, -1, 1));
        same("4 VOID, number 0 for these", Check.VOID, x -> x.mend(1, 7, 1));
        same("5 VOID what", Check.VOID, x -> x.of(0, 11));
        same("5 VOID number", Check.VOID, x -> x.of(8, 9));
    }

    private static void tapeAndLaw() {
        same("6 BAD", Check.BAD, x -> x.feed(-1));
        same("6 BAD", Check.BAD, x -> x.feed(256));
        same("8 BAD ab", Check.BAD, x -> x.loses(11, 0, 0));
        same("8 BAD ab", Check.BAD, x -> x.loses(8, 0, 0));
        same("8 BAD o", Check.BAD, x -> x.loses(1, 10000, 0));
        same("8 BAD ek", Check.BAD, x -> x.loses(1, 0, 60));
        same("8 BAD ek", Check.BAD, x -> x.loses(1, 0, 500));
    }

    /** All calls of a routine, asked alike. */
    private static long asked(EightLegs x, int call, int shelf) {
        switch (call) {
            case 0: return x.routine(shelf, 1);
            case 1: return x.apart(shelf, 3, 0);
            case 2: return x.gone(shelf, 0);
            case 3: return x.gone(shelf, -1);
            case 4: return x.least(shelf, 0);
            case 5: return x.gasps(shelf, -1);
            case 6: return x.looks(shelf, -1);
            case 7: return x.whose(shelf, 0);
            case 8: return x.first(shelf, 0);
            case 9: return x.slip(shelf, 0, 9);
            case 10: return x.drawn(shelf, 5, 203, 0);
            default: return x.swim(shelf);
        }
    }

    private static void routinesOnNoRoutine() {
        for (int call = 0; call <= 11; call++) {
            int which = call;
            for (int shelf : NO_SHELF) {
                same("9-18, 26, 27 BAD in " + call, Check.BAD, x -> asked(x, which, shelf));
            }
            same("9-18, 26, 27 -11 in " + call, Check.NOTHING, x -> asked(x, which, EMPTY));
            same("9-18, 26, 27 -12 in " + call, Check.OTHER_KIND, x -> asked(x, which, RIPPLES));
            same("9-18, 26, 27 -12 in " + call, Check.OTHER_KIND, x -> asked(x, which, COUNT));
            same("9-18, 26, 27 -12 in " + call, Check.OTHER_KIND, x -> asked(x, which, LONGS));
        }
        for (int shelf : new int[] {-1, 6, EMPTY, RIPPLES, COUNT, LONGS}) {
            same("10 VOID", Check.VOID, x -> x.off(shelf, 1, 0));
        }
    }

    private static void routinesWithOtherNumbers() {
        same("9 BAD what", Check.BAD, x -> x.routine(ROUTINE, 4));
        same("10 VOID n", Check.VOID, x -> x.off(ROUTINE, 61, 0));
        same("10 VOID one", Check.VOID, x -> x.off(ROUTINE, 0, 8));
        same("11 BAD n", Check.BAD, x -> x.apart(ROUTINE, 61, 0));
        same("11 BAD what", Check.BAD, x -> x.apart(ROUTINE, 0, 2));
        same("12 BAD one", Check.BAD, x -> x.gone(ROUTINE, 8));
        same("12 BAD one", Check.BAD, x -> x.gone(ROUTINE, -2));
        same("13 BAD one", Check.BAD, x -> x.least(ROUTINE, -1));
        same("14 BAD k", Check.BAD, x -> x.gasps(ROUTINE, -2));
        same("15 BAD k", Check.BAD, x -> x.looks(ROUTINE, -2));
        same("16 BAD what", Check.BAD, x -> x.whose(ROUTINE, 2));
        same("17 BAD what", Check.BAD, x -> x.first(ROUTINE, 2));
        same("18 BAD one", Check.BAD, x -> x.slip(ROUTINE, 800, 1));
        same("18 BAD k", Check.BAD, x -> x.slip(ROUTINE, 60, 1));
        same("18 BAD v", Check.BAD, x -> x.slip(ROUTINE, 0, 100));
        same("14 NOT as many", Check.NOT, x -> x.gasps(ROUTINE, 16));
        same("15 NOT as many", Check.NOT, x -> x.looks(ROUTINE, 16));
    }

    private static void tooLong() {
        same("14 STATE", Check.STATE, x -> x.gasps(LONG_ROUTINE, -1));
        same("15 STATE", Check.STATE, x -> x.looks(LONG_ROUTINE, -1));
    }

    private static void ground() {
        same("19 STATE", Check.STATE, x -> x.line(1, -1));
        same("19 BAD slant", Check.BAD, x -> x.line(10, -1));
        same("19 BAD k", Check.BAD, x -> x.line(1, -2));
        same("20 BAD", Check.BAD, x -> x.lift(2));
        same("21 BAD", Check.BAD, x -> x.star(3));
    }

    private static void ripples() {
        for (int call = 0; call <= 3; call++) {
            int which = call;
            int bad = call == 3 ? Check.VOID : Check.BAD;
            for (int sr : new int[] {-1, 6, 60, 61, Check.LOW, Check.HIGH}) {
                same("22-25 BAD in " + call, bad, x -> asked(x, which, sr, 0));
            }
            same("22-25 -11 in " + call, Check.NOTHING, x -> asked(x, which, 10 * ROUTINE + EMPTY, 0));
            same("22-25 -11 in " + call, Check.NOTHING, x -> asked(x, which, 10 * EMPTY + RIPPLES, 0));
            same("22-25 -11 ahead of -12 in " + call, Check.NOTHING, x -> asked(x, which, 10 * COUNT + EMPTY, 0));
            same("22-25 -12 in " + call, Check.OTHER_KIND, x -> asked(x, which, 10 * RIPPLES + RIPPLES, 0));
            same("22-25 -12 in " + call, Check.OTHER_KIND, x -> asked(x, which, 10 * ROUTINE + LONGS, 0));
        }
        same("24 BAD one", Check.BAD, x -> x.later(1, 8));
        same("25 VOID one", Check.VOID, x -> x.quicker(1, 8));
        same("24 NOT", Check.NOT, x -> x.later(10 * ROUTINE + RIPPLES, 1));
        same("25 NOT", -99, x -> x.quicker(10 * ROUTINE + RIPPLES, 1));
        same("22 NOT", Check.NOT, x -> x.judge(10 * LONG_ROUTINE + RIPPLES));
    }

    private static long asked(EightLegs x, int call, int sr, int one) {
        switch (call) {
            case 0: return x.judge(sr);
            case 1: return x.whoLed(sr);
            case 2: return x.later(sr, one);
            default: return x.quicker(sr, one);
        }
    }

    private static void drawnAndLed() {
        for (int ns : new int[] {-1, 0, 99, 113, 3100}) {
            same("26 BAD ns " + ns, Check.BAD, x -> x.drawn(ROUTINE, 1, ns, 0));
        }
        same("26 BAD what", Check.BAD, x -> x.drawn(ROUTINE, 1, 100, 2));
        same("28 BAD", Check.BAD, x -> x.led(5));
        same("28 BAD", Check.BAD, x -> x.led(-1));
    }

    private static void bodies() {
        same("33 BAD", Check.BAD, x -> x.body(8));
        same("33 FULL", Check.FULL, x -> x.body(0));
        same("35 BAD", Check.BAD, x -> x.trace(14));
        same("35 BAD", Check.BAD, x -> x.trace(-1));
    }

    private static void keepAndRow() {
        for (int shelf : NO_SHELF) {
            same("36 BAD shelf", Check.BAD, x -> x.keep(shelf, 0));
            same("37 BAD shelf", Check.BAD, x -> x.row(shelf, 0, 1));
        }
        for (int shelf = 0; shelf <= 5; shelf++) {
            int which = shelf;
            same("36 BAD body", Check.BAD, x -> x.keep(which, 50));
            same("36 BAD body", Check.BAD, x -> x.keep(which, -2));
            same("37 BAD sort", Check.BAD, x -> x.row(which, 5, 1));
            same("37 BAD sort", Check.BAD, x -> x.row(which, -1, 1));
            same("37 BAD n", Check.BAD, x -> x.row(which, 0, 61));
            same("37 -14", Check.BELOW_ZERO, x -> x.row(which, 0, -1));
        }
    }

    private static void putAndElement() {
        for (int shelf : NO_SHELF) {
            same("38 BAD", Check.BAD, x -> x.put(shelf, 0, 1));
            same("39 BAD", Check.NO_ELEMENT, x -> x.element(shelf, 0));
        }
        same("38 -11", Check.NOTHING, x -> x.put(EMPTY, 0, 1));
        same("38 -12", Check.OTHER_KIND, x -> x.put(COUNT, 0, 1));
        same("38 -13", Check.NO_PLACE, x -> x.put(ROUTINE, 7, 1));
        same("38 -13", Check.NO_PLACE, x -> x.put(ROUTINE, -1, 1));
        same("39 -11", Check.NO_ELEMENT, x -> x.element(EMPTY, 0));
        same("39 -12", Check.NO_ELEMENT, x -> x.element(COUNT, 0));
        same("39 -13", Check.NO_ELEMENT, x -> x.element(ROUTINE, 7));
    }

    private static void shift() {
        for (int shelf : NO_SHELF) {
            same("40 BAD", Check.BAD, x -> x.shift(shelf, 0, LONG_ROUTINE, 0, 1));
            same("40 BAD", Check.BAD, x -> x.shift(LONG_ROUTINE, 0, shelf, 0, 1));
        }
        same("40 -11", Check.NOTHING, x -> x.shift(EMPTY, 0, LONG_ROUTINE, 0, 1));
        same("40 -11", Check.NOTHING, x -> x.shift(ROUTINE, 0, EMPTY, 0, 1));
        same("40 -12", Check.OTHER_KIND, x -> x.shift(ROUTINE, 1, RIPPLES, 0, 1));
        same("40 -12", Check.OTHER_KIND, x -> x.shift(COUNT, 0, COUNT, 0, 0));
        int[][] places = {{-1, 0, 1}, {0, -1, 1}, {1, 0, 7}, {0, 11, 7}, {1, 1, -1}, {8, 0, 0}, {0, 18, 0}, {1, 1, Check.HIGH}};
        for (int[] p : places) {
            same("40 -13", Check.NO_PLACE, x -> x.shift(ROUTINE, p[0], LONG_ROUTINE, p[1], p[2]));
        }
        same("40 none come", 0, x -> x.shift(ROUTINE, 7, LONG_ROUTINE, 17, 0));
    }

    private static void takenAndCount() {
        same("41 BAD shelf", Check.BAD, x -> x.taken(6, 0));
        same("41 BAD k", Check.BAD, x -> x.taken(COUNT, 8));
        same("41 -11", Check.NOTHING, x -> x.taken(EMPTY, 0));
        same("41 -12 a row", Check.OTHER_KIND, x -> x.taken(ROUTINE, 0));
        same("41 -12 not under it", Check.OTHER_KIND, x -> x.taken(COUNT, 5));
        same("42 BAD", Check.BAD, x -> x.count(5));
        same("42 BAD", Check.BAD, x -> x.count(-1));
    }

    /** What is only asked changes nothing either, whatever the answer is. */
    private static void asking() {
        for (int call = 0; call <= 10; call++) {
            int which = call;
            long answer = asked(fullPool(), which, ROUTINE);
            same("9-18, 26 asked in " + call, answer, x -> asked(x, which, ROUTINE));
        }
        for (int call = 0; call <= 3; call++) {
            int which = call;
            for (int sr : new int[] {10 * ROUTINE + RIPPLES, 10 * LONG_ROUTINE + RIPPLES}) {
                long answer = asked(fullPool(), which, sr, 1);
                same("22-25 asked in " + call, answer, x -> asked(x, which, sr, 1));
            }
        }
        same("10 asked", fullPool().off(ROUTINE, 5, 1), x -> x.off(ROUTINE, 5, 1));
        same("20 asked", fullPool().lift(1), x -> x.lift(1));
        same("21 asked", fullPool().star(1), x -> x.star(1));
        same("35 asked", 81, x -> x.trace(0));
        same("41 asked", 3, x -> x.taken(COUNT, 2));
    }
}
