/** Promises 33 to 35: counts whose acts come from above, and their trace. */
public final class ActsTest {
    private static final Check c = new Check("ActsTest");
    private static final int COUNT = 0, LEGS = 1, BREATH = 2, SMILE = 3, LIFT = 4, STAR = 5, ECHO = 6, JUDGE = 7;
    private static final int COUNTS = 0, TURNS = 1, SINKS = 2, TELLS = 3;

    private ActsTest() {
    }

    public static void main(String[] args) {
        body();
        counts();
        turns();
        sinks();
        tells();
        wrap();
        actWrong();
        traceWrong();
        c.end();
    }

    private static void body() {
        EightLegs x = new EightLegs();
        int[] kinds = {-1, 8, Check.LOW, Check.HIGH};
        for (int kind : kinds) {
            c.due("33 kind " + kind, x.body(kind), Check.BAD);
        }
        for (int n = 0; n < 50; n++) {
            c.due("33 its number", x.body(n % 8), n);
            c.due("42 bodies", x.count(3), n + 1);
        }
        c.due("33 FULL", x.body(0), Check.FULL);
        c.due("33 BAD ahead of FULL", x.body(8), Check.BAD);
        c.due("42 fifty", x.count(3), 50);
        c.due("34 the last one", x.act(49, COUNTS, 1), 53);
        c.due("34 no such", x.act(50, COUNTS, 1), 0);
    }

    /** A body of each kind, behind five others: kind k is number 5 + k. */
    private static EightLegs ofEachKind() {
        EightLegs x = new EightLegs();
        for (int n = 0; n < 5; n++) {
            x.body(COUNT);
        }
        for (int kind = 0; kind < 8; kind++) {
            x.body(kind);
        }
        return x;
    }

    private static void act(int kind, int act, int v, int due, int... trace) {
        EightLegs x = ofEachKind();
        String told = "34 kind " + kind + " act " + act + " of " + v;
        c.due(told, x.act(5 + kind, act, v), due);
        c.due(told + ": how many ran", x.count(4), trace.length);
        for (int i = 0; i < trace.length; i++) {
            c.due("35 " + told + ": " + i, x.trace(i), trace[i]);
        }
        c.due("35 " + told + ": no more", x.trace(trace.length), Check.BAD);
    }

    private static void counts() {
        act(COUNT, COUNTS, 10, 15, 1);
        act(LEGS, COUNTS, 10, 19, 20, 1);
        act(BREATH, COUNTS, 10, 17, 1);
        act(SMILE, COUNTS, 10, 18, 1);
        act(LIFT, COUNTS, 10, 22, 20, 1);
        act(STAR, COUNTS, 10, 20, 1);
        act(ECHO, COUNTS, 10, 42, 70, 1);
        act(JUDGE, COUNTS, 10, 25, 20, 1);
    }

    private static void turns() {
        act(COUNT, TURNS, 10, 30, 10, 1);
        act(LEGS, TURNS, 10, 38, 10, 20, 1);
        act(BREATH, TURNS, 10, -34, 30, 10, 1);
        act(SMILE, TURNS, 10, -38, 41, 30, 10, 1);
        act(LIFT, TURNS, 10, 44, 10, 20, 1);
        act(STAR, TURNS, 10, -42, 41, 30, 10, 1);
        act(ECHO, TURNS, 10, 84, 10, 70, 1);
        // 50 and (2 ^ 12) - (2 + 12 + 3)
        act(JUDGE, TURNS, 10, 50 + 14 - 17, 80, 10, 20, 1, 50, 11, 20, 1);
    }

    private static void sinks() {
        act(COUNT, SINKS, 10, 10 ^ 5, 11);
        act(LEGS, SINKS, 10, 10 ^ 6, 11);
        act(BREATH, SINKS, 10, 10 ^ 7, 11);
        act(SMILE, SINKS, 10, (10 ^ 8) * 3, 40, 11);
        act(LIFT, SINKS, 10, (10 ^ 9) - 14, 50, 11, 20, 1);
        act(STAR, SINKS, 7, (7 ^ 10) * 3, 40, 11);
        act(ECHO, SINKS, 10, 10 ^ 11, 11);
        act(JUDGE, SINKS, 10, (10 ^ 12) - 17, 50, 11, 20, 1);
    }

    private static void tells() {
        act(COUNT, TELLS, 10, 30 - (1 ^ 5), 2, 10, 1, 11);
        act(LEGS, TELLS, 10, 38 - (1 ^ 6), 2, 10, 20, 1, 11);
        act(BREATH, TELLS, 10, -34 - (1 ^ 7), 2, 30, 10, 1, 11);
        act(SMILE, TELLS, 10, -38 - (1 ^ 8) * 3, 2, 41, 30, 10, 1, 40, 11);
        act(LIFT, TELLS, 10, 44 - ((1 ^ 9) - 14), 2, 10, 20, 1, 50, 11, 20, 1);
        act(STAR, TELLS, 10, (-42 - (1 ^ 10) * 3) ^ 5, 60, 2, 41, 30, 10, 1, 40, 11);
        act(ECHO, TELLS, 10, 84 - (1 ^ 11), 2, 10, 70, 1, 11);
        act(JUDGE, TELLS, 10, 47 - ((1 ^ 12) - 17) - 1, 81, 2, 80, 10, 20, 1, 50, 11, 20, 1, 50, 11, 20, 1);
    }

    private static void wrap() {
        act(COUNT, COUNTS, Check.HIGH, Check.LOW + 4, 1);
        act(COUNT, TURNS, Check.HIGH, 8, 10, 1);
        act(SMILE, TURNS, Check.HIGH, -2 * (Check.LOW + 8), 41, 30, 10, 1);
        act(SMILE, SINKS, Check.LOW, (Check.LOW + 8) * 3, 40, 11);
        act(LIFT, SINKS, Check.LOW, Check.LOW + 9 - 14, 50, 11, 20, 1);
    }

    private static void actWrong() {
        int[] bodies = {-1, 13, 50, Check.LOW, Check.HIGH};
        for (int body : bodies) {
            EightLegs x = ofEachKind();
            x.act(5, TELLS, 1);
            c.due("34 no such COUNT", x.act(body, COUNTS, 1), 0);
            c.due("34 no TRACE then", x.trace(0), Check.BAD);
            c.due("34 none ran", x.count(4), 0);
        }
        int[] acts = {-1, 4, Check.LOW, Check.HIGH};
        for (int act : acts) {
            EightLegs x = ofEachKind();
            x.act(5, TELLS, 1);
            c.due("34 no such ACT", x.act(5, act, 1), 0);
            c.due("34 no TRACE then", x.trace(0), Check.BAD);
            c.due("34 none ran", x.count(4), 0);
        }
        c.due("34 no bodies", new EightLegs().act(0, 0, 1), 0);
    }

    private static void traceWrong() {
        EightLegs x = ofEachKind();
        c.due("35 none yet", x.trace(0), Check.BAD);
        x.act(5 + JUDGE, TELLS, 1);
        int[] places = {-1, 14, 23, 24, Check.LOW, Check.HIGH};
        for (int i : places) {
            c.due("35 place " + i, x.trace(i), Check.BAD);
        }
        c.due("35 asking changes nothing", x.trace(0), 81);
        x.act(5, COUNTS, 1);
        c.due("35 the latest act's", x.trace(0), 1);
        c.due("35 alone", x.trace(1), Check.BAD);
    }
}
