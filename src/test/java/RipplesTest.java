/** Promises 22 to 26: ripples read back, and trainings by draws. */
public final class RipplesTest {
    private static final Check c = new Check("RipplesTest");

    private RipplesTest() {
    }

    public static void main(String[] args) {
        judge();
        refusals();
        whoLed();
        later();
        quicker();
        drawn();
        drawnAfterLooks();
        drawnWrong();
        c.end();
    }

    private static void judge() {
        EightLegs x = Check.pool(3);
        x.mend(1, 4, 3);
        x.mend(2, 5, 4);
        Check.routine(x, "0001");
        Check.lay(x, 2, 1, 7, 10, 13, 16);
        c.due("22 all so", x.judge(2), Check.NOT);
        x.put(2, 3, 17);
        c.due("22 the last is not so", x.judge(2), 3);
        x.put(2, 1, 9);
        c.due("22 the first that is not so", x.judge(2), 1);
        Check.lay(x, 2, 1, 7, 10);
        c.due("22 as far as the ripples go", x.judge(2), Check.NOT);
        Check.lay(x, 2, 1, 7, 10, 13, 16, 1, 2);
        c.due("22 as far as the routine goes", x.judge(2), Check.NOT);
        Check.lay(x, 2, 1);
        c.due("22 no ripples", x.judge(2), Check.NOT);
        Check.lay(x, 2, 1, 7, 65536 + 10, -65536 + 13);
        c.due("22 shorts", x.judge(2), Check.NOT);
        Check.lay(x, 2, 1, -7);
        c.due("22 never below 0", x.judge(2), 0);
        for (int routine = 0; routine <= 5; routine++) {
            for (int ripples = 0; ripples <= 5; ripples++) {
                if (routine != ripples) {
                    EightLegs y = Check.pool(2);
                    y.mend(1, 4, 2);
                    y.row(routine, 0, 4);
                    Check.lay(y, ripples, 1, 2, 4, 7);
                    c.due("22 shelves " + routine + ", " + ripples, y.judge(10 * routine + ripples), 2);
                }
            }
        }
        EightLegs one = Check.pool(1);
        one.mend(0, 4, 9);
        Check.routine(one, "00");
        Check.lay(one, 1, 1, 0, 0);
        c.due("22 one alone is 0 apart", one.judge(1), Check.NOT);
    }

    private static int asked(EightLegs x, int call, int sr) {
        switch (call) {
            case 0: return x.judge(sr);
            case 1: return x.whoLed(sr);
            case 2: return x.later(sr, 0);
            default: return x.quicker(sr, 0);
        }
    }

    private static void refusals() {
        for (int call = 0; call <= 3; call++) {
            EightLegs x = Check.pool(1);
            int bad = call == 3 ? Check.VOID : Check.BAD;
            int[] wrong = {-1, -10, 6, 9, 16, 56, 60, 65, 100, Check.LOW, Check.HIGH};
            for (int sr : wrong) {
                c.due("22-25 sr " + sr + " in " + call, asked(x, call, sr), bad);
            }
            c.due("22-25 nothing at all", asked(x, call, 1), Check.NOTHING);
            x.row(0, 0, 1);
            c.due("22-25 no ripples", asked(x, call, 1), Check.NOTHING);
            c.due("22-25 no routine", asked(x, call, 10), Check.NOTHING);
            c.due("22-25 the same shelf", asked(x, call, 0), Check.OTHER_KIND);
            x.row(0, 2, 1);
            c.due("22-25 -11 ahead of -12", asked(x, call, 1), Check.NOTHING);
            c.due("22-25 -11 ahead of -12", asked(x, call, 10), Check.NOTHING);
            x.row(1, 1, 1);
            c.due("22-25 no routine: ints", asked(x, call, 1), Check.OTHER_KIND);
            x.row(0, 0, 1);
            c.due("22-25 the other way round", asked(x, call, 10), Check.OTHER_KIND);
            for (int sort = 0; sort <= 4; sort++) {
                x.row(1, sort, 0);
                c.due("22-25 sort " + sort, asked(x, call, 1) == Check.OTHER_KIND ? 1 : 0, sort == 1 ? 0 : 1);
            }
            x.body(3);
            x.keep(1, 0);
            c.due("22-25 a COUNT", asked(x, call, 1), Check.OTHER_KIND);
            int[] ones = {-1, 1, Check.LOW, Check.HIGH};
            for (int one : ones) {
                c.due("24 one " + one, x.later(2, one), Check.BAD);
                c.due("25 one " + one, x.quicker(2, one), Check.VOID);
            }
        }
    }

    private static void whoLed() {
        EightLegs x = Check.pool(3);
        x.mend(0, 4, 4);
        x.mend(1, 4, 1);
        Check.routine(x, "0401");
        // behind the look all are together, whoever led
        Check.lay(x, 1, 1, 4, 0, 4);
        c.due("23 any", x.whoLed(1), 7);
        x.put(1, 1, 8);
        c.due("23 nobody of them", x.whoLed(1), 0);
        x.mend(0, 6, 7);
        c.due("22 a LEADER that there is not", x.judge(1), 2);
        c.due("23 the LEADER now does not count", x.whoLed(1), 0);
        x.put(1, 1, 0);
        c.due("23 any", x.whoLed(1), 7);
        c.due("23 LEADER stays", x.of(0, 6), 7);
        EightLegs y = Check.pool(2);
        y.mend(0, 6, 5);
        y.mend(0, 4, 3);
        Check.routine(y, "40");
        Check.lay(y, 1, 1, 0, 3);
        c.due("22 nobody's count", y.judge(1), 0);
        c.due("23 either's", y.whoLed(1), 3);
        EightLegs none = new EightLegs();
        Check.routine(none, "0");
        none.row(1, 1, 0);
        c.due("23 nobody there", none.whoLed(1), 0);
    }

    private static void later() {
        EightLegs x = Check.pool(2);
        x.mend(1, 4, 2);
        Check.routine(x, "000");
        Check.lay(x, 1, 1, 12, 14, 16);
        c.due("24 the other one later", x.later(1, 0), 10);
        c.due("24 she herself could not", x.later(1, 1), Check.NOT);
        c.due("24 her LATE stays", x.of(0, 5), 0);
        Check.lay(x, 1, 1, 2, 4, 6);
        c.due("24 0", x.later(1, 1), 0);
        Check.lay(x, 1, 1, 97, 95, 93);
        c.due("24 99", x.later(1, 1), 99);
        Check.lay(x, 1, 1, 98);
        c.due("24 not beyond 99", x.later(1, 1), Check.NOT);
        Check.lay(x, 1, 1, 1);
        c.due("24 the least of 1 and 3", x.later(1, 1), 1);
        x.mend(1, 5, 50);
        c.due("24 whatever it is now", x.later(1, 1), 1);
    }

    private static void quicker() {
        EightLegs x = Check.pool(2);
        x.mend(0, 5, 40);
        Check.routine(x, "000");
        Check.lay(x, 1, 1, 31, 22, 13);
        c.due("25 -9", x.quicker(1, 1), -9);
        Check.lay(x, 1, 1, 49, 58, 67);
        c.due("25 9", x.quicker(1, 1), 9);
        c.due("25 her own", x.quicker(1, 0), -9);
        Check.lay(x, 1, 1, 39, 38);
        c.due("25 -1", x.quicker(1, 1), -1);
        c.due("25 her QUICK stays", x.of(1, 4), 0);
        Check.lay(x, 1, 1, 39, 37);
        c.due("25 none", x.quicker(1, 1), -99);
        Check.lay(x, 1, 1, 50);
        c.due("25 not beyond 9", x.quicker(1, 1), -99);
        x.mend(0, 5, 0);
        Check.lay(x, 1, 1, 4, 8);
        c.due("25 the least of -4 and 4", x.quicker(1, 1), -4);
        Check.lay(x, 1, 1);
        c.due("25 any: the least", x.quicker(1, 1), -9);
    }

    private static int byHand(int seed, int n, int slips, int counts, boolean clean) {
        return byHand(seed, n, slips, counts, clean, 0);
    }

    /** The draws once more, for two swimmers whose marks are how far they are apart; the first has QUICK. */
    private static int byHand(int seed, int n, int slips, int counts, boolean clean, int quick) {
        int z = seed;
        int marks = 0;
        int without = 0;
        for (int training = 0; training < n; training++) {
            int first = 0;
            int second = 0;
            int lost = 0;
            for (int k = 0; k < counts; k++) {
                z = z * 1103515245 + 12345;
                first += quick + ((z >>> 8) % 12 < slips ? 1 : 0);
                z = z * 1103515245 + 12345;
                second += (z >>> 8) % 12 < slips ? 1 : 0;
                lost += Math.abs(first - second);
            }
            marks += lost;
            without += lost == 0 ? 1 : 0;
        }
        return clean ? without : marks;
    }

    private static void drawn() {
        EightLegs x = Check.pool(2);
        x.mend(0, 7, 1);
        Check.routine(x, "0101010");
        int[] seeds = {0, 1, -1, 77, Check.LOW, Check.HIGH, 123456789};
        for (int seed : seeds) {
            for (int slips = 0; slips <= 12; slips++) {
                c.due("26 MARKS", x.drawn(0, seed, 500 + slips, 0), byHand(seed, 5, slips, 7, false));
                c.due("26 without any", x.drawn(0, seed, 500 + slips, 1), byHand(seed, 5, slips, 7, true));
            }
            x.mend(0, 4, 0);
        }
        c.due("26 12 slips in 12: all alike", x.drawn(0, 9, 3012, 1), 30);
        c.due("26 no slips", x.drawn(0, 9, 3000, 1), 30);
        c.due("26 30 trainings", x.drawn(0, 9, 3005, 0), byHand(9, 30, 5, 7, false));
        c.due("26 one training", x.drawn(0, 9, 101, 0), byHand(9, 1, 1, 7, false));
        x.mend(0, 4, 3);
        c.due("26 besides QUICK: 3 + 6 + .. + 21, twice", x.drawn(0, 9, 212, 0), 168);
        c.due("26 none without", x.drawn(0, 9, 212, 1), 0);
        for (int quick = -9; quick <= 9; quick++) {
            x.mend(0, 4, quick);
            // with QUICK it shows who slips, and that a slip is ahead, not behind
            c.due("26 QUICK " + quick, x.drawn(0, 41, 403, 0), byHand(41, 4, 3, 7, false, quick));
            c.due("26 QUICK " + quick, x.drawn(0, 41, 409, 0), byHand(41, 4, 9, 7, false, quick));
        }
        EightLegs none = new EightLegs();
        Check.routine(none, "00");
        c.due("26 nobody: none lost", none.drawn(0, 5, 712, 0), 0);
        c.due("26 nobody: all without", none.drawn(0, 5, 712, 1), 7);
    }

    private static void drawnAfterLooks() {
        EightLegs x = Check.pool(2);
        x.mend(0, 7, 1);
        Check.routine(x, "4444");
        c.due("26 a look comes behind the draws", x.drawn(0, 3, 1006, 0), 0);
        x.mend(0, 6, 5);
        c.due("26 nobody's look", x.drawn(0, 3, 1006, 0), byHand(3, 10, 6, 4, false));
    }

    private static void drawnWrong() {
        EightLegs x = Check.pool(2);
        Check.routine(x, "01");
        int[] wrong = {0, 1, 99, 12, 113, 199, 3013, 3100, 3112, -1, -100, -101, Check.LOW, Check.HIGH};
        for (int ns : wrong) {
            c.due("26 ns " + ns, x.drawn(0, 0, ns, 0), Check.BAD);
            c.due("26 BAD ahead of -11", x.drawn(1, 0, ns, 0), Check.BAD);
        }
        int[] whats = {-1, 2, Check.LOW, Check.HIGH};
        for (int what : whats) {
            c.due("26 what " + what, x.drawn(0, 0, 100, what), Check.BAD);
        }
    }
}
