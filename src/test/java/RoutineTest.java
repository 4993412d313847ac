/** Promises 9 to 18: a routine in thought. */
public final class RoutineTest {
    private static final Check c = new Check("RoutineTest");

    private RoutineTest() {
    }

    public static void main(String[] args) {
        routine();
        routineEnds();
        refusals();
        badAheadOfRefusals();
        off();
        looksInThought();
        apart();
        gone();
        goneByGasps();
        least();
        gasps();
        gaspsFirstOfLikeOnes();
        gaspsTenAtMost();
        looks();
        looksTenAtMost();
        noCountsBehindOthers();
        tooLong();
        whose();
        first();
        slip();
        slipWrong();
        nothingChanges();
        c.end();
    }

    private static void routine() {
        EightLegs x = Check.pool(3);
        x.mend(1, 4, 9);
        x.mend(0, 7, 10);
        Check.routine(x, "0012");
        c.due("9 counts", x.routine(0, 0), 4);
        // apart 9, 18, 27, 36: 0 + 1 + 2 + 2 * 3 of two twos
        c.due("9 MARKS", x.routine(0, 1), 18);
        c.due("9 the first apart by SEEN", x.routine(0, 2), 1);
        c.due("9 of like ones the first", x.routine(0, 3), 1);
        x.mend(0, 5, 1);
        c.due("9 the two that lose most", x.routine(0, 3), 1);
        x.mend(0, 4, 8);
        x.mend(2, 4, -9);
        c.due("9 the two that lose most", x.routine(0, 3), 12);
        x.mend(0, 7, 18);
        c.due("9 by SEEN, not more", x.routine(0, 2), 0);
        x.mend(0, 7, 19);
        c.due("9 behind the second", x.routine(0, 2), 1);
        x.mend(0, 7, 73);
        c.due("9 never", x.routine(0, 2), Check.NOT);
        c.due("9 none lose any", x.routine(0, 3), Check.NOT);
        c.due("9 none", x.routine(0, 1), 0);
        Check.routine(x, "0000");
        c.due("9 no mark", x.routine(0, 1), 0);
        x.mend(0, 7, 72);
        c.due("9 one mark", x.routine(0, 1), 1);
        c.due("9 the two that lose it", x.routine(0, 3), 12);
        EightLegs y = Check.pool(2);
        y.mend(0, 5, 99);
        Check.routine(y, "");
        c.due("9 ahead of all counts nothing is seen", y.routine(0, 2), Check.NOT);
        Check.routine(y, "2");
        c.due("9 LATE alone: 99 by 25, twice", y.routine(0, 1), 6);
        c.due("9 at once", y.routine(0, 2), 0);
        EightLegs z = Check.pool(3);
        z.mend(0, 5, 10);
        z.mend(1, 4, 4);
        z.mend(2, 5, 6);
        z.mend(0, 7, 1);
        // of 0 and 1 14 + 18 + 10 + 14, of 0 and 2 4 each, of 1 and 2 10 + 14 + 6 + 10
        Check.routine(z, "0041");
        c.due("9 the two that lose most in all", z.routine(0, 3), 1);
        Check.law(z, "k<1?t;(3-k)*o");
        c.due("9 not behind the last count alone", z.routine(0, 3), 1);
    }

    private static void routineEnds() {
        EightLegs x = Check.pool(1);
        Check.lay(x, 0, 0, 0, 1, 2, 3, 4, 5, 1);
        c.due("9 it ends with 5", x.routine(0, 0), 5);
        x.put(0, 3, -1);
        c.due("9 it ends with -1", x.routine(0, 0), 3);
        x.put(0, 0, 127);
        c.due("9 it ends at once", x.routine(0, 0), 0);
        x.put(0, 0, 256);
        c.due("9 256 is 0 in a byte", x.routine(0, 0), 3);
        x.row(5, 0, 60);
        c.due("9 60 counts on the last shelf", x.routine(5, 0), 60);
        x.row(5, 0, 0);
        c.due("9 no counts", x.routine(5, 0), 0);
    }

    /** All calls of a routine, asked alike. */
    private static int asked(EightLegs x, int call, int shelf) {
        switch (call) {
            case 0: return x.routine(shelf, 0);
            case 1: return x.routine(shelf, 1);
            case 2: return x.routine(shelf, 2);
            case 3: return x.routine(shelf, 3);
            case 4: return x.apart(shelf, 0, 0);
            case 5: return x.apart(shelf, 60, 1);
            case 6: return x.gone(shelf, 0);
            case 7: return x.gone(shelf, -1);
            case 8: return x.least(shelf, 0);
            case 9: return x.gasps(shelf, -1);
            case 10: return x.gasps(shelf, 0);
            case 11: return x.looks(shelf, -1);
            case 12: return x.looks(shelf, 0);
            case 13: return x.whose(shelf, 0);
            case 14: return x.whose(shelf, 1);
            case 15: return x.first(shelf, 0);
            case 16: return x.first(shelf, 1);
            case 17: return x.slip(shelf, 0, 0);
            case 18: return x.drawn(shelf, 0, 100, 0);
            case 19: return x.drawn(shelf, 0, 100, 1);
            default: return x.swim(shelf);
        }
    }

    private static void refusals() {
        for (int call = 0; call <= 20; call++) {
            EightLegs x = Check.pool(1);
            int[] shelves = {-1, 6, Check.LOW, Check.HIGH};
            for (int shelf : shelves) {
                c.due("9-18, 26, 27 shelf " + shelf + " in " + call, asked(x, call, shelf), Check.BAD);
                c.due("10 shelf " + shelf, x.off(shelf, 0, 0), Check.VOID);
            }
            c.due("9-18, 26, 27 nothing there in " + call, asked(x, call, 0), Check.NOTHING);
            for (int sort = 1; sort <= 4; sort++) {
                x.row(0, sort, 3);
                c.due("9-18, 26, 27 sort " + sort + " in " + call, asked(x, call, 0), Check.OTHER_KIND);
                c.due("10 sort " + sort, x.off(0, 0, 0), Check.VOID);
            }
            x.body(0);
            x.keep(0, 0);
            c.due("9-18, 26, 27 a COUNT in " + call, asked(x, call, 0), Check.OTHER_KIND);
            c.due("10 a COUNT", x.off(0, 0, 0), Check.VOID);
            x.keep(0, -1);
            c.due("10 nothing there", x.off(0, 0, 0), Check.VOID);
            c.due("27 nothing was swum", x.led(0), 0);
        }
    }

    private static void badAheadOfRefusals() {
        EightLegs x = Check.pool(2);
        int[] wrong = {-1, 4, Check.LOW, Check.HIGH};
        for (int what : wrong) {
            c.due("9 what " + what, x.routine(0, what), Check.BAD);
        }
        int[] counts = {-1, 61, Check.LOW, Check.HIGH};
        int[] ones = {-1, 2, Check.LOW, Check.HIGH};
        int[] whats = {-1, 2, Check.LOW, Check.HIGH};
        x.row(1, 0, 3);
        for (int shelf = 0; shelf <= 1; shelf++) {
            for (int i = 0; i < 4; i++) {
                c.due("10 n", x.off(shelf, counts[i], 0), Check.VOID);
                c.due("10 one", x.off(shelf, 0, ones[i]), Check.VOID);
                c.due("11 n", x.apart(shelf, counts[i], 0), Check.BAD);
                c.due("11 what", x.apart(shelf, 0, whats[i]), Check.BAD);
                c.due("12 one", x.gone(shelf, i == 0 ? -2 : ones[i]), Check.BAD);
                c.due("13 one", x.least(shelf, ones[i]), Check.BAD);
                c.due("14 k", x.gasps(shelf, i == 0 ? -2 : Check.LOW + i), Check.BAD);
                c.due("15 k", x.looks(shelf, i == 0 ? -2 : Check.LOW + i), Check.BAD);
                c.due("16 what", x.whose(shelf, whats[i]), Check.BAD);
                c.due("17 what", x.first(shelf, whats[i]), Check.BAD);
            }
        }
    }

    private static void off() {
        EightLegs x = Check.pool(2);
        x.mend(0, 4, 7);
        x.mend(1, 4, -9);
        x.mend(1, 5, 99);
        x.row(2, 0, 60);
        c.due("10 behind none", x.off(2, 0, 0), 0);
        c.due("10 LATE behind none", x.off(2, 0, 1), -99);
        c.due("10 behind one", x.off(2, 1, 0), 7);
        c.due("10 behind 60", x.off(2, 60, 0), 420);
        c.due("10 behind 60, LATE", x.off(2, 60, 1), -639);
        x.put(2, 3, 9);
        c.due("10 as far as it goes", x.off(2, 60, 0), 21);
        c.due("10 as far as it goes", x.off(2, 4, 0), 21);
        c.due("10 shorter", x.off(2, 2, 0), 14);
    }

    /** Behind a look all have the leader's drift with that count's QUICK. */
    private static void looksInThought() {
        EightLegs x = Check.pool(3);
        x.mend(0, 4, 5);
        x.mend(1, 4, -3);
        x.mend(2, 5, 40);
        Check.routine(x, "0401");
        x.mend(0, 6, 1);
        c.due("10 the leader's own", x.off(0, 2, 1), -6);
        c.due("10 that of the leader", x.off(0, 2, 0), -6);
        c.due("10 that of the leader, less her own LATE", x.off(0, 2, 2), -46);
        c.due("10 from there on", x.off(0, 3, 0), -1);
        c.due("10 from there on", x.off(0, 4, 0), 4);
        c.due("10 ahead of it", x.off(0, 1, 0), 5);
        x.mend(0, 6, 0);
        c.due("10 another leader", x.off(0, 2, 1), 10);
        x.mend(0, 6, 3);
        c.due("10 none such: nobody's", x.off(0, 2, 0), 10);
        c.due("10 none such: nobody's", x.off(0, 2, 1), -6);
        x.swimmer(0, 5);
        c.due("10 now there is one", x.off(0, 2, 0), 0);
    }

    private static void apart() {
        EightLegs x = Check.pool(4);
        x.row(0, 0, 4);
        c.due("11 all together", x.apart(0, 4, 0), 0);
        c.due("11 of like ones the first", x.apart(0, 4, 1), 1);
        x.mend(3, 4, 2);
        c.due("11 the greatest", x.apart(0, 4, 0), 8);
        c.due("11 of like ones the first", x.apart(0, 4, 1), 3);
        x.mend(2, 5, 5);
        c.due("11 with LATE", x.apart(0, 4, 0), 13);
        c.due("11 10 times the lesser", x.apart(0, 4, 1), 23);
        c.due("11 behind none", x.apart(0, 0, 0), 5);
        c.due("11 behind none", x.apart(0, 0, 1), 2);
        c.due("11 as far as it goes", x.apart(0, 60, 0), 13);
        EightLegs one = Check.pool(1);
        one.mend(0, 4, 9);
        one.row(0, 0, 4);
        c.due("11 one alone", one.apart(0, 4, 0), 0);
        c.due("11 no two", one.apart(0, 4, 1), Check.NOT);
    }

    private static void gone() {
        EightLegs x = Check.pool(3);
        x.mend(0, 3, 2);
        x.mend(1, 3, 3);
        x.mend(2, 3, 4);
        Check.routine(x, "011201211");
        c.due("12 the first count of it", x.gone(0, 0), 3);
        c.due("12 just enough, and then not", x.gone(0, 1), 8);
        c.due("12 never", x.gone(0, 2), Check.NOT);
        c.due("12 who", x.gone(0, -1), 3);
        x.mend(1, 3, 4);
        c.due("12 who", x.gone(0, -1), 1);
        Check.routine(x, "113114110");
        c.due("12 lifted and looking are above", x.gone(0, -1), 0);
        Check.routine(x, "111");
        c.due("12 gone stays gone", x.gone(0, -1), 1);
        Check.routine(x, "1110000");
        c.due("12 by the end, though she came above", x.gone(0, -1), 1);
        c.due("12 nobody there", empty().gone(0, -1), 0);
    }

    private static void goneByGasps() {
        EightLegs x = Check.pool(1);
        x.mend(0, 3, 2);
        x.mend(0, 8, 2);
        Check.routine(x, "10101");
        c.due("12 a shorter time above gives nothing", x.gone(0, 0), 4);
        Check.routine(x, "11001100");
        c.due("12 two on end give all", x.gone(0, 0), Check.NOT);
        Check.routine(x, "1100110340101");
        c.due("12 more than enough gives no more", x.gone(0, 0), Check.NOT);
        Check.routine(x, "0011101");
        c.due("12 all is there at first", x.gone(0, 0), 4);
        Check.routine(x, "110111");
        c.due("12 the one above does not count", x.gone(0, 0), 3);
        x.mend(0, 8, 9);
        Check.routine(x, "11000000001");
        c.due("12 eight of nine", x.gone(0, 0), 10);
        Check.routine(x, "110000000001");
        c.due("12 nine of nine", x.gone(0, 0), Check.NOT);
    }

    private static void least() {
        EightLegs x = Check.pool(2);
        x.mend(1, 3, 60);
        String[] acts = {"", "0", "1", "11", "0112011211", "101", "340"};
        int[] dues = {1, 1, 1, 2, 5, 1, 1};
        for (int i = 0; i < acts.length; i++) {
            Check.routine(x, acts[i]);
            c.due("13 " + acts[i], x.least(0, 0), dues[i]);
            c.due("13 hers is alike", x.least(0, 1), dues[i]);
        }
        x.mend(0, 8, 2);
        Check.routine(x, "101");
        c.due("13 by GASP", x.least(0, 0), 2);
        x.row(0, 0, 60);
        for (int k = 0; k < 60; k++) {
            x.put(0, k, 1 + k % 2);
        }
        c.due("13 all of 60", x.least(0, 0), 60);
    }

    private static void gasps() {
        EightLegs x = Check.pool(2);
        x.mend(0, 3, 2);
        Check.routine(x, "1111111");
        c.due("14 two", x.gasps(0, -1), 2);
        c.due("14 the first", x.gasps(0, 0), 1);
        c.due("14 the second", x.gasps(0, 1), 4);
        c.due("14 there are not as many", x.gasps(0, 2), Check.NOT);
        c.due("14 far beyond", x.gasps(0, Check.HIGH), Check.NOT);
        Check.routine(x, "0110");
        c.due("14 none", x.gasps(0, -1), 0);
        c.due("14 none of none", x.gasps(0, 0), Check.NOT);
        Check.routine(x, "2222");
        c.due("14 legs up stay up", x.gasps(0, -1), Check.NOT);
        c.due("14 legs up stay up", x.gasps(0, 0), Check.NOT);
        Check.routine(x, "22122");
        c.due("14 the 1 between", x.gasps(0, -1), 1);
        c.due("14 the 1 between", x.gasps(0, 0), 2);
        x.mend(1, 3, 1);
        c.due("14 nobody's: she has less", x.gasps(0, -1), Check.NOT);
        Check.routine(x, "1111");
        c.due("14 the least breath counts", x.gasps(0, -1), 2);
        c.due("14 the first", x.gasps(0, 0), 0);
        c.due("14 the second", x.gasps(0, 1), 2);
    }

    private static void gaspsFirstOfLikeOnes() {
        EightLegs x = Check.pool(1);
        x.mend(0, 3, 3);
        x.mend(0, 8, 2);
        Check.routine(x, "1111111");
        // two on end, as one alone gives nothing: 1 00 1111 ends too long, 11 00 111 does not
        c.due("14 GASP as it is", x.gasps(0, -1), 2);
        c.due("14 the first", x.gasps(0, 0), 2);
        c.due("14 the second", x.gasps(0, 1), 3);
        x.mend(0, 3, 6);
        c.due("14 any one will do", x.gasps(0, -1), 1);
        c.due("14 of like ones the first", x.gasps(0, 0), 0);
        Check.routine(x, "0110110111");
        c.due("14 beside one that is above", x.gasps(0, -1), 1);
        c.due("14 of like ones the first", x.gasps(0, 0), 1);
        x.mend(0, 3, 5);
        c.due("14 of like ones the first", x.gasps(0, 0), 2);
        EightLegs none = new EightLegs();
        Check.routine(none, "1111111111111111");
        c.due("14 nobody there", none.gasps(0, -1), 0);
    }

    private static void gaspsTenAtMost() {
        EightLegs x = Check.pool(1);
        x.mend(0, 3, 1);
        x.mend(0, 8, 9);
        Check.routine(x, "11111111111");
        c.due("14 ten of eleven", x.gasps(0, -1), 9);
        Check.routine(x, "111111111111");
        c.due("14 ten of twelve", x.gasps(0, -1), 10);
        c.due("14 the tenth", x.gasps(0, 9), 10);
        Check.routine(x, "1111111111111");
        c.due("14 eleven of thirteen: 10 at most", x.gasps(0, -1), Check.NOT);
        c.due("14 none of them", x.gasps(0, 0), Check.NOT);
        x.mend(0, 8, 1);
        Check.routine(x, "1111111111111111");
        c.due("14 eight of sixteen", x.gasps(0, -1), 8);
        c.due("14 the eighth", x.gasps(0, 7), 14);
    }

    private static void looks() {
        EightLegs x = Check.pool(2);
        x.mend(0, 4, 9);
        x.mend(0, 7, 28);
        Check.routine(x, "0000000");
        c.due("15 one look for three counts", x.looks(0, -1), 1);
        c.due("15 of like ones the first", x.looks(0, 0), 3);
        c.due("15 there are not as many", x.looks(0, 1), Check.NOT);
        x.mend(0, 7, 27);
        c.due("15 by SEEN, not more", x.looks(0, -1), 2);
        c.due("15 the first", x.looks(0, 0), 1);
        c.due("15 the second", x.looks(0, 1), 4);
        Check.routine(x, "0104100");
        c.due("15 one that is there is used", x.looks(0, -1), 2);
        c.due("15 the first", x.looks(0, 0), 0);
        c.due("15 the second", x.looks(0, 1), 5);
        Check.routine(x, "1110");
        c.due("15 under she cannot look", x.looks(0, -1), Check.NOT);
        Check.routine(x, "11");
        c.due("15 none", x.looks(0, -1), 0);
        x.mend(0, 6, 5);
        c.due("15 nobody's count, none wanted", x.looks(0, -1), 0);
        Check.routine(x, "000");
        c.due("15 nobody's count, one wanted", x.looks(0, -1), Check.NOT);
        x.mend(0, 6, 1);
        x.mend(1, 5, 27);
        c.due("15 LATE stays behind a look", x.looks(0, -1), Check.NOT);
        x.mend(0, 4, 0);
        c.due("15 LATE alone is seen", x.looks(0, -1), Check.NOT);
        x.mend(0, 4, -9);
        Check.routine(x, "00");
        c.due("15 ahead of all counts nothing is seen", x.looks(0, -1), 0);
        EightLegs y = Check.pool(2);
        y.mend(0, 4, 2);
        y.mend(0, 7, 32);
        y.mend(0, 3, 1);
        Check.routine(y, "0000000000000000");
        c.due("15 apart by 32 behind the last of 16", y.looks(0, -1), 1);
        c.due("15 any look will do", y.looks(0, 0), 0);
        y.mend(0, 7, 33);
        c.due("15 apart by 32 is less than 33", y.looks(0, -1), 0);
        Check.routine(y, "0110");
        c.due("14 gasps behind looks", y.gasps(0, -1), 1);
        c.due("14 gasps behind looks", y.gasps(0, 0), 1);
        c.due("15 looks behind gasps", y.looks(0, -1), 0);
        Check.routine(y, "111");
        c.due("14 a shorter one behind it", y.gasps(0, -1), 1);
        c.due("14 a shorter one behind it", y.gasps(0, 0), 1);
        Check.routine(y, "110");
        c.due("14 a shorter one that ends above", y.gasps(0, -1), 1);
        c.due("14 of like ones the first", y.gasps(0, 0), 0);
    }

    private static void looksTenAtMost() {
        EightLegs x = Check.pool(2);
        x.mend(0, 4, 9);
        x.mend(0, 7, 9);
        Check.routine(x, "0000000000");
        c.due("15 ten", x.looks(0, -1), 10);
        c.due("15 the tenth", x.looks(0, 9), 9);
        Check.routine(x, "00000000000");
        c.due("15 eleven: 10 at most", x.looks(0, -1), Check.NOT);
        c.due("15 eleven: 10 at most", x.looks(0, 0), Check.NOT);
        Check.routine(x, "4444440000000000");
        c.due("15 ten of sixteen", x.looks(0, -1), 10);
        c.due("15 the first of them", x.looks(0, 0), 6);
    }

    /** A routine without counts wants nothing, whatever the one ahead of it wanted. */
    private static void noCountsBehindOthers() {
        EightLegs x = Check.pool(2);
        x.mend(0, 3, 1);
        x.mend(0, 4, 9);
        x.mend(0, 7, 9);
        Check.routine(x, "1010110000");
        c.due("14 one", x.gasps(0, -1), 1);
        c.due("15 more than there are", x.looks(0, -1), Check.NOT);
        Check.routine(x, "");
        c.due("14 none of no counts", x.gasps(0, -1), 0);
        c.due("14 nor the first", x.gasps(0, 0), Check.NOT);
        c.due("15 none of no counts", x.looks(0, -1), 0);
        c.due("15 nor the first", x.looks(0, 0), Check.NOT);
        c.due("12 nobody's is gone", x.gone(0, -1), 0);
        c.due("13 1 at least", x.least(0, 0), 1);
        c.due("16 none lost", x.whose(0, 1), 0);
        c.due("17 none lost", x.first(0, 1), 0);
        c.due("18 none lost", x.slip(0, 0, 99), 0);
    }

    private static void tooLong() {
        EightLegs x = Check.pool(1);
        x.row(0, 0, 17);
        c.due("14 17 counts", x.gasps(0, -1), Check.STATE);
        c.due("15 17 counts", x.looks(0, -1), Check.STATE);
        c.due("14 17 counts", x.gasps(0, 16), Check.STATE);
        c.due("15 17 counts", x.looks(0, 16), Check.STATE);
        c.due("14 BAD ahead of it", x.gasps(0, -2), Check.BAD);
        c.due("15 BAD ahead of it", x.looks(0, -2), Check.BAD);
        x.put(0, 16, 5);
        c.due("14 16 counts of a longer row", x.gasps(0, -1), 0);
        c.due("15 16 counts of a longer row", x.looks(0, -1), 0);
    }

    private static void whose() {
        EightLegs x = Check.pool(3);
        x.mend(0, 7, 1);
        x.mend(0, 4, 2);
        x.mend(1, 4, -1);
        Check.routine(x, "004");
        c.due("16 behind a look all are together: 3 + 2 + 1, 6 + 4 + 2", x.whose(0, 1), 18);
        c.due("16 of like ones the least", x.whose(0, 0), 0);
        c.due("16 LEADER stays", x.of(0, 6), 0);
        Check.law(x, "k=2?o;0");
        c.due("16 behind the look none are lost, by anybody's count", x.whose(0, 1), 0);
        EightLegs y = Check.pool(2);
        y.mend(0, 6, 1);
        y.mend(0, 7, 1);
        Check.routine(y, "4");
        c.due("16 all alike", y.whose(0, 0), 0);
        c.due("16 none lost", y.whose(0, 1), 0);
        y.mend(0, 4, 1);
        Check.routine(y, "04");
        y.mend(0, 6, 7);
        c.due("9 nobody's count", y.routine(0, 1), 3);
        c.due("16 anybody's is better", y.whose(0, 1), 1);
        c.due("16 of like ones the least", y.whose(0, 0), 0);
        c.due("16 LEADER stays", y.of(0, 6), 7);
        c.due("16 nobody", empty().whose(0, 0), Check.NOT);
        c.due("16 nobody", empty().whose(0, 1), Check.NOT);
    }

    private static EightLegs empty() {
        EightLegs x = new EightLegs();
        Check.routine(x, "0124");
        return x;
    }

    private static void first() {
        EightLegs x = Check.pool(3);
        x.mend(0, 7, 1);
        x.mend(0, 4, 2);
        x.mend(1, 4, -3);
        Check.routine(x, "1");
        // apart 5, 2, 3 by twos: without 0's QUICK 3 + 0 + 3, without 1's 2 + 2 + 0
        c.due("9 as it is", x.routine(0, 1), 10);
        c.due("17 which", x.first(0, 0), 1);
        c.due("17 how many", x.first(0, 1), 4);
        x.mend(0, 4, 3);
        c.due("17 of like ones the least", x.first(0, 0), 0);
        c.due("17 how many", x.first(0, 1), 6);
        c.due("17 her QUICK stays", x.of(0, 4), 3);
        c.due("17 nobody", empty().first(0, 0), Check.NOT);
        c.due("17 nobody", empty().first(0, 1), Check.NOT);
        EightLegs y = Check.pool(2);
        y.mend(0, 4, 3);
        y.mend(1, 4, 3);
        y.mend(0, 7, 3);
        Check.routine(y, "11");
        c.due("17 mended it is worse", y.first(0, 1), 3);
        c.due("17 of like ones the least", y.first(0, 0), 0);
    }

    private static void slip() {
        EightLegs x = Check.pool(2);
        x.mend(0, 7, 1);
        Check.routine(x, "0010");
        c.due("18 behind the first on: 4 counts", x.slip(0, 0, 3), 12);
        c.due("18 behind the second on: 3 counts", x.slip(0, 1, 3), 9);
        c.due("18 behind the last", x.slip(0, 103, -5), 5);
        c.due("18 beyond it nothing changes", x.slip(0, 104, -5), 0);
        c.due("18 beyond it nothing changes", x.slip(0, 59, 99), 0);
        x.mend(1, 4, 1);
        c.due("18 with QUICK: 2, 1, 0, 1", x.slip(0, 0, 3), 4);
        c.due("18 by -99: 100, 101, 102, 103, cut", x.slip(0, 0, -99), 396);
        c.due("18 by 0", x.slip(0, 2, 0), 10);
        x.mend(1, 4, 0);
        Check.routine(x, "0400");
        c.due("18 a look takes it away", x.slip(0, 100, 7), 7);
        c.due("18 the leader's goes to all", x.slip(0, 0, 7), 7);
        c.due("18 behind the look it comes behind it", x.slip(0, 101, 7), 21);
        c.due("18 the leader's, behind the look", x.slip(0, 1, 7), 21);
        c.due("18 it is no change of hers", x.routine(0, 1), 0);
        EightLegs y = Check.pool(3);
        y.mend(0, 7, 1);
        y.mend(0, 4, 1);
        y.mend(1, 5, 20);
        Check.routine(y, "000");
        // OFF of 0 is 1, 2, 3, of 1 -20, of 2 0: twice 21 + 22 + 23
        c.due("9 as it is", y.routine(0, 1), 132);
        c.due("18 of 0: 21 + 27 + 28, twice", y.slip(0, 1, 5), 42 + 54 + 56);
        c.due("18 of 1: 42, twice 17 + 18", y.slip(0, 101, 5), 42 + 34 + 36);
        c.due("18 of 2: 42, twice 25", y.slip(0, 201, 5), 42 + 50 + 50);
        c.due("18 of 0 as the first", y.slip(0, 0, -1), 40 + 42 + 44);
        c.due("18 of 1 as the first", y.slip(0, 100, -1), 44 + 46 + 48);
    }

    private static void slipWrong() {
        EightLegs x = Check.pool(2);
        Check.routine(x, "0010");
        int[] oks = {-1, 60, 99, 160, 200, -100, Check.LOW, Check.HIGH};
        for (int ok : oks) {
            c.due("18 ok " + ok, x.slip(0, ok, 0), Check.BAD);
            c.due("18 BAD ahead of -11", x.slip(1, ok, 0), Check.BAD);
        }
        int[] vs = {-100, 100, Check.LOW, Check.HIGH};
        for (int v : vs) {
            c.due("18 v " + v, x.slip(0, 0, v), Check.BAD);
        }
        c.due("18 v -99", x.slip(0, 159, -99), 0);
    }

    private static void nothingChanges() {
        EightLegs x = Check.pool(3);
        x.mend(0, 4, 4);
        x.mend(1, 5, 30);
        x.mend(2, 3, 1);
        Check.routine(x, "0411204111");
        int lost = x.routine(0, 1);
        x.gasps(0, -1);
        x.looks(0, -1);
        x.whose(0, 0);
        x.first(0, 0);
        x.slip(0, 0, 50);
        x.drawn(0, 1, 3012, 0);
        Check.lay(x, 1, 1, 31, 5);
        x.whoLed(1);
        x.later(1, 2);
        x.quicker(1, 2);
        c.due("9 in thought nothing changes", x.routine(0, 1), lost);
        c.due("42 nor is there a change", x.count(2), 3);
        c.due("5 nobody is TIRED", x.of(0, 9), 0);
        c.due("28 nothing was swum", x.led(0), 0);
        c.due("39 the routine is as it was", x.element(0, 2), 1);
    }
}
