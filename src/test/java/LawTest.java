/** Promises 6 to 8: the tape, the law and what two lose by it. */
public final class LawTest {
    private static final Check c = new Check("LawTest");

    private LawTest() {
    }

    public static void main(String[] args) {
        feed();
        law();
        faults();
        openAtOnce();
        longTexts();
        loses();
        losesWrong();
        worth();
        lines();
        wraps();
        lawInRoutines();
        c.end();
    }

    private static void feed() {
        EightLegs x = new EightLegs();
        int[] wrong = {-1, 256, Check.LOW, Check.HIGH};
        for (int letter : wrong) {
            c.due("6 letter " + letter, x.feed(letter), Check.BAD);
        }
        c.due("6 nothing came", x.count(1), 0);
        for (int i = 1; i <= 120; i++) {
            c.due("6 how many", x.feed(i % 2 == 0 ? 255 : 0), i);
        }
        c.due("6 FULL", x.feed('o'), Check.FULL);
        c.due("6 BAD ahead of FULL", x.feed(256), Check.BAD);
        c.due("6 120", x.count(1), 120);
        c.due("7 a fault empties it, too", x.law(), -100);
        c.due("6 empty", x.count(1), 0);
        c.due("6 one", x.feed('o'), 1);
    }

    private static void law() {
        EightLegs x = Check.pool(2);
        c.due("8 without a text", x.loses(1, 100, 0), 4);
        c.due("7 an empty tape", x.law(), -100);
        c.due("8 still without", x.loses(1, 100, 0), 4);
        c.due("7 a text", Check.law(x, "7"), 1);
        c.due("7 the tape is empty", x.count(1), 0);
        c.due("8 by the text", x.loses(1, 100, 0), 7);
        c.due("7 a fault", Check.law(x, "9+"), -102);
        c.due("7 the tape is empty", x.count(1), 0);
        c.due("8 the old one stays", x.loses(1, 100, 0), 7);
        c.due("7 another text", Check.law(x, "o"), 1);
        c.due("8 it counts", x.loses(1, 11, 0), 11);
    }

    private static void faults() {
        String[] texts = {"", "x", " o", "o ", "o+", "o+)", "+o", "o)", "(o", "(o))", "()", "12345", "1234", "00000", "oo", "o1", "1o",
            "o<1<2", "o=1>2", "o<(1<2)", "o<1&o<2", "o<1|o<2", "o<", "(o<1)<2", "o<1+2<3", "o?1", "o?1?2", "?1", "o?", "o?;1", "o;",
            ";o", "o;;o", "o;o", "(o;o)", "(o?1)", "!", "!!o", "!o!", "-o", "o--o", "o-", "o!o", "o*/o", "o*-o", "a", "O", "1.5",
            "o?1;o?2;3", "o?1;o?2;", "o&&o", "o||o", "o==o", "e%s", "(o+(e-(d*(t/(k%s)))))", "s,o", "o\u0000", "\u00e9"};
        int[] faults = {0, 0, 0, 1, 2, 2, 0, 1, 2, 3, 1, 4, -1, 4, 1, 1, 1,
            3, 3, -1, -1, -1, 2, -1, 5, -1, 3, 0, 2, 2, 2,
            0, 2, -1, 2, 2, 1, -1, 2, -1, -1, 2, 1, 2, -1, 0, 0, 1,
            -1, 8, 2, 2, 2, -1, -1, 1, 1, 0};
        c.due("7 as many texts as faults", texts.length, faults.length);
        for (int i = 0; i < texts.length; i++) {
            EightLegs x = new EightLegs();
            c.due("7 law of '" + texts[i] + "'", Check.law(x, texts[i]), faults[i] < 0 ? 1 : -100 - faults[i]);
        }
    }

    private static void openAtOnce() {
        String[] texts = {"((((((o))))))", "(((((((o)))))))", "!!!!!!o", "!!!!!!!o", "------o", "-------o", "(!-(!-o))", "(!-(!-(o)))",
            "(!-(!-!o))", "(((((o)))))+((((((o))))))", "!!!!!!o+!!!!!!o", "(!!!!!o+!!!!!o)", "(!!!!!!o)", "(((((o+!o)))))", "(((((o+!!o)))))",
            "!!!!!!(o)", "!!!!!(o)", "o-------o", "o--------o"};
        int[] faults = {-1, 6, -1, 6, -1, 6, -1, 6,
            6, -1, -1, -1, 6, -1, 8,
            6, -1, -1, 8};
        for (int i = 0; i < texts.length; i++) {
            EightLegs x = new EightLegs();
            c.due("7 open in " + texts[i], Check.law(x, texts[i]), faults[i] < 0 ? 1 : -100 - faults[i]);
        }
    }

    private static void longTexts() {
        EightLegs x = Check.pool(2);
        c.due("7 119 bytes", Check.law(x, "1" + "+1".repeat(59)), 1);
        c.due("8 all of it is worked out", x.loses(1, 0, 0), 60);
        c.due("7 120 bytes", Check.law(x, "21" + "+1".repeat(59)), 1);
        c.due("8 all of it is worked out", x.loses(1, 0, 0), 80);
        c.due("7 it ends too early", Check.law(x, "1+".repeat(60)), -220);
        c.due("7 lines of 119 bytes", Check.law(x, "0?1;".repeat(29) + "17"), 1);
        c.due("8 the last one", x.loses(1, 0, 0), 17);
        c.due("7 60 lines", Check.law(x, "5;".repeat(59) + "6"), 1);
        c.due("8 the first one", x.loses(1, 0, 0), 5);
        c.due("7 deep and long", Check.law(x, "0|1&0<0+1*(".repeat(6) + "1))))))"), 1);
        c.due("8 it is 1", x.loses(1, 0, 0), 1);
    }

    private static void loses() {
        EightLegs x = Check.pool(3);
        c.due("8 none", x.loses(1, 24, 0), 0);
        c.due("8 one", x.loses(1, 25, 0), 1);
        c.due("8 cut", x.loses(1, 49, 0), 1);
        c.due("8 two", x.loses(12, 50, 0), 2);
        c.due("8 twice with legs up", x.loses(20, 50, 200), 4);
        c.due("8 cut ahead of twice", x.loses(20, 49, 200), 2);
        for (int act = 0; act <= 4; act++) {
            c.due("8 act " + act, x.loses(1, 75, 100 * act), act == 2 ? 6 : 3);
        }
        c.due("8 99 at most", x.loses(1, 2500, 0), 99);
        c.due("8 99", x.loses(1, 2475, 0), 99);
        c.due("8 98", x.loses(1, 2474, 0), 98);
        c.due("8 99 at most with legs up", x.loses(1, 1250, 259), 99);
        c.due("8 98 with legs up", x.loses(1, 1249, 259), 98);
        c.due("8 9999", x.loses(1, 9999, 459), 99);
        x.mend(0, 7, 999);
        c.due("8 by SEEN", x.loses(1, 9999, 0), 10);
        x.mend(0, 7, 1);
        c.due("8 by SEEN 1", x.loses(1, 7, 0), 7);
        EightLegs y = Check.pool(8);
        y.mend(7, 2, 9);
        y.mend(6, 2, 3);
        Check.law(y, "t");
        c.due("8 the last two", y.loses(76, 0, 0), 6);
        c.due("8 the other way round", y.loses(67, 0, 459), 6);
        c.due("8 0 and the last", y.loses(7, 0, 0), 4);
    }

    private static void losesWrong() {
        EightLegs x = Check.pool(3);
        int[] pairs = {0, 11, 22, 3, 30, 33, -1, -10, 100, 13, 31, Check.LOW, Check.HIGH};
        for (int ab : pairs) {
            c.due("8 ab " + ab, x.loses(ab, 0, 0), Check.BAD);
        }
        int[] aparts = {-1, 10000, Check.LOW, Check.HIGH};
        for (int o : aparts) {
            c.due("8 o " + o, x.loses(1, o, 0), Check.BAD);
        }
        int[] counts = {-1, 60, 99, 160, 500, 559, -100, Check.LOW, Check.HIGH};
        for (int ek : counts) {
            c.due("8 ek " + ek, x.loses(1, 0, ek), Check.BAD);
        }
        c.due("8 one alone", Check.pool(1).loses(1, 0, 0), Check.BAD);
    }

    /** Swimmers at (3, 2) 9 tall and at (1, 7) 5 tall: d is 7, t 4; o is 40, e 2, k 17, s 25. */
    private static void worth() {
        String[] texts = {"o", "e", "d", "t", "k", "s", "0", "0012", "98", "99", "100", "9999", "-1", "-o", "!o", "!0", "!!o", "--7",
            "2+3", "7-2-3", "7-(2-3)", "2+3*4", "(2+3)*4", "7/2", "-7/2+9", "7%4", "-7%4+9", "7/0", "7%0+3", "24/4/3", "24/4*3", "17%7%2",
            "1<2", "2<2", "2<1", "2=2", "2=3", "3>2", "2>2", "2>3", "1+1<3", "1<1+1", "5|0", "0|5", "0|0", "0|0|3", "5&7", "5&0", "0&5",
            "0&0", "1&2&3", "1|0&0", "(1|0)&0", "1&0|1", "2=2&3", "0<1|0", "!1+1", "!(1+1)", "-2+5", "-(2+5)+9", "3*-2+9", "!0*7", "2*!0",
            "o/s+(e=2)*d-t+k/5", "(1<2)=1", "d*10+t", "o-e*d", "7-9", "s-o", "1|2", "8&8", "!o|7", "-1&-1", "-1<0", "0>-1", "5"};
        int[] dues = {40, 2, 7, 4, 17, 25, 0, 12, 98, 99, 99, 99, 0, 0, 0, 1, 1, 7,
            5, 2, 8, 14, 20, 3, 6, 3, 6, 0, 3, 2, 18, 1,
            1, 0, 0, 1, 0, 1, 0, 0, 1, 1, 1, 1, 0, 1, 1, 0, 0,
            0, 1, 1, 0, 1, 1, 1, 1, 0, 3, 2, 3, 7, 2,
            7, 1, 74, 26, 0, 0, 1, 1, 1, 1, 1, 1, 5};
        c.due("8 as many texts as answers", texts.length, dues.length);
        EightLegs x = new EightLegs();
        for (int i = 0; i < texts.length; i++) {
            // one object answers 512 calls
            if (i % 20 == 0) {
                x = new EightLegs();
                x.swimmer(203, 9);
                x.swimmer(701, 5);
            }
            c.due("7 law of " + texts[i], Check.law(x, texts[i]), 1);
            c.due("8 " + texts[i], x.loses(1, 40, 217), dues[i]);
            c.due("8 " + texts[i] + ", the other way round", x.loses(10, 40, 217), dues[i]);
        }
    }

    private static void lines() {
        String[] texts = {"o>100?9;e=2?8;7", "o>10?9;e=2?8;7", "0?9;0?8", "0?9;5;0?7;8", "0;5", "5?0;6", "-1?4", "o-40?3;4", "o-39?3;4",
            "0?1;0?2;0?3;1?4;1?5", "1?(o?3)", "o?d;t", "0*(1/0)|0?4;11", "1?0|3", "0|2?6", "1?((((((7))))))", "((((((1))))))?8;9"};
        int[] dues = {8, 9, 0, 5, 0, 0, 4, 4, 3, 4, -1, 7, 11, 1, 6, 7, 8};
        EightLegs x = new EightLegs();
        x.swimmer(203, 9);
        x.swimmer(701, 5);
        for (int i = 0; i < texts.length; i++) {
            c.due("7 law of " + texts[i], Check.law(x, texts[i]), dues[i] < 0 ? -104 : 1);
            if (dues[i] >= 0) {
                c.due("8 " + texts[i], x.loses(1, 40, 217), dues[i]);
            }
        }
    }

    /** 65536 is 2 to the 16th: its square is 0 in an int, half of that the least int. */
    private static void wraps() {
        String least = "256*256*256*128";
        String[] texts = {"256*256*256*256", least + "<0", least + "-1>0", "(" + least + ")/-1<0", "(" + least + ")%-1", "-(" + least + ")<0",
            "9999*9999*9999%100", "-(" + least + "+1)>0", "(" + least + "-1)%97"};
        int[] dues = {0, 1, 1, 1, 0, 1, 0, 1, Integer.MAX_VALUE % 97};
        dues[6] = Math.max(0, 9999 * 9999 * 9999 % 100);
        EightLegs x = Check.pool(2);
        for (int i = 0; i < texts.length; i++) {
            c.due("7 law of " + texts[i], Check.law(x, texts[i]), 1);
            c.due("8 " + texts[i], x.loses(1, 0, 0), dues[i]);
        }
    }

    private static void lawInRoutines() {
        EightLegs x = new EightLegs();
        x.swimmer(203, 9);
        x.swimmer(701, 5);
        x.swimmer(701, 5);
        x.mend(1, 4, 3);
        Check.routine(x, "012");
        Check.law(x, "k");
        c.due("9 by the count: 3 twos, 0 + 1 + 2", x.routine(0, 1), 9);
        Check.law(x, "e*10");
        c.due("9 by what they do", x.routine(0, 1), 90);
        Check.law(x, "d+t");
        c.due("9 by where they are: 11 + 11 + 0, three counts", x.routine(0, 1), 66);
        c.due("9 the two", x.routine(0, 3), 1);
        Check.law(x, "o");
        c.due("9 by how far apart: 3 + 6 + 9, of two twos", x.routine(0, 1), 36);
        c.due("9 the two", x.routine(0, 3), 1);
        x.mend(0, 0, 15);
        Check.law(x, "d");
        c.due("9 moved: 19 + 19 + 0, three counts", x.routine(0, 1), 114);
        c.due("8 moved", x.loses(2, 0, 0), 19);
        Check.law(x, "s");
        x.mend(0, 7, 4);
        c.due("9 SEEN as it is now", x.routine(0, 1), 36);
        c.due("8 SEEN as it is now", x.loses(2, 0, 0), 4);
    }
}
