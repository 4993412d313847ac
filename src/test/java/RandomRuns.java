/** Long runs of calls by draws of a fixed seed, on EightLegs and on the Model: they must answer alike. */
public final class RandomRuns {
    private static final int RUNS = 1500, CALLS = 512;
    private static final String[] LETTERS = {"0", "1", "2", "7", "25", "99", "1000", "9999", "o", "e", "d", "t", "k", "s"};
    private static final String SIGNS = "||&&<=>+-*/%";

    private final EightLegs legs = new EightLegs();
    private final Model model = new Model();
    private final Draws random;
    private final StringBuilder told = new StringBuilder();
    private int calls;
    private int wrong;

    private RandomRuns(int run) {
        random = new Draws(run);
    }

    public static void main(String[] args) {
        int wrong = 0;
        for (int run = 0; run < RUNS && wrong < 3; run++) {
            wrong += new RandomRuns(run).go(run);
        }
        System.out.println(wrong == 0 ? "RandomRuns: " + RUNS + " runs answer alike" : "RandomRuns: WRONG");
        System.exit(wrong == 0 ? 0 : 1);
    }

    private int go(int run) {
        begin();
        while (calls < CALLS && wrong == 0) {
            step();
        }
        if (wrong > 0) {
            System.out.println("run " + run + ":" + told);
        }
        return wrong;
    }

    /** Most runs want swimmers, a routine and ripples from the first call on. */
    private void begin() {
        if (random.nextInt(10) == 0) {
            return;
        }
        int swimmers = random.nextInt(9);
        for (int one = 0; one < swimmers; one++) {
            swimmer();
        }
        layRoutine(0);
        layRipples(1);
        for (int i = 0; i < random.nextInt(12); i++) {
            mend();
        }
    }

    private void step() {
        int what = random.nextInt(100);
        if (what < 3) {
            swimmer();
        } else if (what < 15) {
            mend();
        } else if (what < 17) {
            layRoutine(place(6));
        } else if (what < 19) {
            layRipples(place(6));
        } else if (what < 21) {
            layLaw();
        } else if (what < 55) {
            thinkOf();
        } else if (what < 65) {
            ground();
        } else if (what < 75) {
            deeds();
        } else if (what < 85) {
            acts();
        } else {
            shelves();
        }
    }

    private void same(String call, long got, long due) {
        calls++;
        told.append(' ').append(call);
        if (got != due) {
            wrong++;
            told.append(" answered ").append(got).append(", due is ").append(due);
        }
    }

    /** Mostly 0 .. n - 1, now and then just beside it, or far away. */
    private int place(int n) {
        int draw = random.nextInt(40);
        if (draw < 37 && n > 0) {
            return random.nextInt(n);
        }
        int[] beside = {-1, n, n + 1, -2, Integer.MIN_VALUE, Integer.MAX_VALUE, 100, -100};
        return beside[random.nextInt(beside.length)];
    }

    private int one() {
        return place(model.count(0));
    }

    private int shelf() {
        int draw = random.nextInt(20);
        return draw < 15 ? 0 : draw < 17 ? 1 : place(6);
    }

    private int ripples() {
        int draw = random.nextInt(20);
        return draw < 15 ? 1 : draw < 19 ? 10 * random.nextInt(6) + random.nextInt(6) : place(66);
    }

    private void swimmer() {
        int xy = 100 * place(random.nextBoolean() ? 16 : 3) + place(random.nextBoolean() ? 16 : 3);
        int tall = 1 + place(9);
        same("swimmer(" + xy + ", " + tall + ")", legs.swimmer(xy, tall), model.swimmer(xy, tall));
    }

    private void mend() {
        int what = place(9);
        int number = what >= 6 && what <= 8 && random.nextInt(8) > 0 ? 0 : one();
        int v = switch (what) {
            case 0, 1 -> place(16);
            case 2, 8 -> 1 + place(random.nextBoolean() ? 9 : 3);
            case 3 -> 1 + place(random.nextBoolean() ? 60 : 6);
            case 4 -> -9 + place(19);
            case 5 -> place(random.nextBoolean() ? 100 : 8);
            case 6 -> place(8);
            default -> 1 + place(random.nextBoolean() ? 999 : 40);
        };
        same("mend(" + number + ", " + what + ", " + v + ")", legs.mend(number, what, v), model.mend(number, what, v));
        int asked = random.nextInt(3) == 0 ? place(11) : what;
        same("of(" + number + ", " + asked + ")", legs.of(number, asked), model.of(number, asked));
    }

    private void row(int shelf, int sort, int n) {
        same("row(" + shelf + ", " + sort + ", " + n + ")", legs.row(shelf, sort, n), model.row(shelf, sort, n));
    }

    private void put(int shelf, int i, long v) {
        same("put(" + shelf + ", " + i + ", " + v + "L)", legs.put(shelf, i, v), model.put(shelf, i, v));
    }

    private void layRoutine(int shelf) {
        int n = random.nextInt(6) == 0 ? random.nextInt(61) : random.nextInt(17);
        int kind = random.nextInt(4);
        row(shelf, 0, n);
        for (int k = 0; k < n; k++) {
            int act = kind == 0 ? random.nextInt(5) : kind == 1 ? random.nextInt(2) : kind == 2 ? 4 * random.nextInt(2) : 1;
            put(shelf, k, random.nextInt(60) == 0 ? place(5) : random.nextInt(8) == 0 ? random.nextInt(5) : act);
        }
    }

    private void layRipples(int shelf) {
        int n = random.nextInt(5);
        int[] answers = new int[n];
        int one = random.nextInt(8);
        int what = 4 + random.nextInt(3);
        int v = what == 4 ? random.nextInt(19) - 9 : what == 5 ? random.nextInt(100) : one;
        int was = model.mend(what == 6 ? 0 : one, what, v);
        for (int k = 0; k < n; k++) {
            answers[k] = model.apart(0, k + 1, 0);
        }
        if (was != Model.VOID && was != v) {
            same("mend(" + (what == 6 ? 0 : one) + ", " + what + ", " + v + ")", legs.mend(what == 6 ? 0 : one, what, v), was);
            same("undo()", legs.undo(), model.undo());
        }
        row(shelf, 1, n);
        for (int k = 0; k < n; k++) {
            put(shelf, k, random.nextInt(20) == 0 ? place(40) : answers[k]);
        }
    }

    private void layLaw() {
        StringBuilder text = new StringBuilder();
        int lines = 1 + random.nextInt(3);
        for (int line = 0; line < lines; line++) {
            text.append(line > 0 ? ";" : "");
            if (random.nextBoolean()) {
                text.append(expression(3)).append('?');
            }
            text.append(expression(4));
        }
        int faults = random.nextInt(4) == 0 ? 1 : 0;
        for (int i = 0; i < faults && text.length() > 0; i++) {
            text.setCharAt(random.nextInt(text.length()), "o1(!-);?|&<=+*/ \u00e9".charAt(random.nextInt(17)));
        }
        int cut = random.nextInt(10) == 0 ? random.nextInt(text.length() + 1) : text.length();
        for (int i = 0; i < Math.min(cut, 125); i++) {
            same("feed(" + (int) text.charAt(i) + ")", legs.feed(text.charAt(i)), model.feed(text.charAt(i)));
        }
        same("law()", legs.law(), model.law());
    }

    private String expression(int deep) {
        int draw = random.nextInt(10);
        if (deep == 0 || draw < 2) {
            return LETTERS[random.nextInt(LETTERS.length)];
        }
        if (draw == 2) {
            return "(" + expression(deep - 1) + ")";
        }
        if (draw == 3) {
            return (random.nextBoolean() ? "!" : "-") + expression(deep - 1);
        }
        return expression(deep - 1) + SIGNS.charAt(random.nextInt(SIGNS.length())) + expression(deep - 1);
    }

    private void thinkOf() {
        int shelf = shelf();
        int k = place(20) - 1;
        int one = one();
        int what = place(2);
        int n = place(random.nextBoolean() ? 61 : 17);
        switch (random.nextInt(17)) {
            case 0, 1 -> {
                int asked = place(4);
                same("routine(" + shelf + ", " + asked + ")", legs.routine(shelf, asked), model.routine(shelf, asked));
            }
            case 2 -> same("off(" + shelf + ", " + n + ", " + one + ")", legs.off(shelf, n, one), model.off(shelf, n, one));
            case 3 -> same("apart(" + shelf + ", " + n + ", " + what + ")", legs.apart(shelf, n, what), model.apart(shelf, n, what));
            case 4 -> {
                int who = random.nextInt(3) == 0 ? -1 : one;
                same("gone(" + shelf + ", " + who + ")", legs.gone(shelf, who), model.gone(shelf, who));
            }
            case 5 -> same("least(" + shelf + ", " + one + ")", legs.least(shelf, one), model.least(shelf, one));
            case 6 -> {
                int asked = random.nextBoolean() ? -1 : Math.min(k, 5);
                same("gasps(" + shelf + ", " + asked + ")", legs.gasps(shelf, asked), model.gasps(shelf, asked));
            }
            case 7 -> {
                int asked = random.nextBoolean() ? -1 : Math.min(k, 5);
                same("looks(" + shelf + ", " + asked + ")", legs.looks(shelf, asked), model.looks(shelf, asked));
            }
            case 8 -> same("whose(" + shelf + ", " + what + ")", legs.whose(shelf, what), model.whose(shelf, what));
            case 9 -> same("first(" + shelf + ", " + what + ")", legs.first(shelf, what), model.first(shelf, what));
            case 10, 11 -> {
                int ok = 100 * one + place(random.nextBoolean() ? 60 : 10);
                int v = place(199) - 99;
                same("slip(" + shelf + ", " + ok + ", " + v + ")", legs.slip(shelf, ok, v), model.slip(shelf, ok, v));
            }
            case 12 -> drawn(shelf, what);
            default -> ripplesRead(one);
        }
        if (random.nextInt(3) == 0) {
            int ab = random.nextInt(4) == 0 ? place(80) : 10 * place(8) + place(8);
            int ek = 100 * place(5) + place(60);
            int o = place(random.nextBoolean() ? 10000 : 100);
            same("loses(" + ab + ", " + o + ", " + ek + ")", legs.loses(ab, o, ek), model.loses(ab, o, ek));
        }
    }

    private void drawn(int shelf, int what) {
        int seed = random.nextBoolean() ? random.nextInt() : random.nextInt(100);
        int ns = random.nextInt(6) == 0 ? 100 * place(32) + place(14) : 100 * (1 + random.nextInt(4)) + random.nextInt(13);
        same("drawn(" + shelf + ", " + seed + ", " + ns + ", " + what + ")",
            legs.drawn(shelf, seed, ns, what), model.drawn(shelf, seed, ns, what));
    }

    private void ripplesRead(int one) {
        int sr = ripples();
        switch (random.nextInt(4)) {
            case 0 -> same("judge(" + sr + ")", legs.judge(sr), model.judge(sr));
            case 1 -> same("whoLed(" + sr + ")", legs.whoLed(sr), model.whoLed(sr));
            case 2 -> same("later(" + sr + ", " + one + ")", legs.later(sr, one), model.later(sr, one));
            default -> same("quicker(" + sr + ", " + one + ")", legs.quicker(sr, one), model.quicker(sr, one));
        }
    }

    private void ground() {
        int what = place(2);
        int slant = place(10);
        int k = place(9) - 1;
        switch (random.nextInt(4)) {
            case 0, 1 -> same("line(" + slant + ", " + k + ")", legs.line(slant, k), model.line(slant, k));
            case 2 -> same("lift(" + what + ")", legs.lift(what), model.lift(what));
            default -> {
                int asked = place(3);
                same("star(" + asked + ")", legs.star(asked), model.star(asked));
            }
        }
    }

    private void deeds() {
        int one = one();
        switch (random.nextInt(8)) {
            case 0, 1 -> {
                int shelf = shelf();
                same("swim(" + shelf + ")", legs.swim(shelf), model.swim(shelf));
            }
            case 2 -> {
                int what = place(5);
                same("led(" + what + ")", legs.led(what), model.led(what));
            }
            case 3 -> same("image()", legs.image(), model.image());
            case 4 -> same("back()", legs.back(), model.back());
            case 5 -> same("undo()", legs.undo(), model.undo());
            case 6 -> same("redo()", legs.redo(), model.redo());
            default -> {
                int what = 9 + random.nextInt(2);
                same("of(" + one + ", " + what + ")", legs.of(one, what), model.of(one, what));
            }
        }
    }

    private void acts() {
        int body = place(model.count(3));
        switch (random.nextInt(4)) {
            case 0 -> {
                int kind = place(8);
                same("body(" + kind + ")", legs.body(kind), model.body(kind));
            }
            case 1 -> {
                int act = place(4);
                int x = random.nextBoolean() ? random.nextInt() : random.nextInt(20) - 10;
                same("act(" + body + ", " + act + ", " + x + ")", legs.act(body, act, x), model.act(body, act, x));
                int i = place(Math.max(1, model.count(4)));
                same("trace(" + i + ")", legs.trace(i), model.trace(i));
            }
            case 2 -> {
                int shelf = 2 + random.nextInt(4);
                int kept = random.nextInt(3) == 0 ? -1 : body;
                same("keep(" + shelf + ", " + kept + ")", legs.keep(shelf, kept), model.keep(shelf, kept));
            }
            default -> {
                int shelf = place(6);
                int kind = place(8);
                same("taken(" + shelf + ", " + kind + ")", legs.taken(shelf, kind), model.taken(shelf, kind));
            }
        }
    }

    private void shelves() {
        int shelf = place(6);
        int i = place(random.nextBoolean() ? 60 : 8);
        switch (random.nextInt(6)) {
            case 0 -> row(2 + random.nextInt(4), place(5), place(random.nextBoolean() ? 61 : 9));
            case 1 -> put(random.nextInt(4) == 0 ? shelf : 2 + random.nextInt(4), i, random.nextBoolean() ? random.nextLong() : place(10));
            case 2 -> same("element(" + shelf + ", " + i + ")", legs.element(shelf, i), model.element(shelf, i));
            case 3 -> {
                int other = random.nextInt(3) == 0 ? shelf : place(6);
                int j = place(8);
                int n = place(random.nextBoolean() ? 4 : 60);
                same("shift(" + shelf + ", " + i + ", " + other + ", " + j + ", " + n + ")",
                    legs.shift(shelf, i, other, j, n), model.shift(shelf, i, other, j, n));
            }
            case 4 -> {
                int what = place(5);
                same("count(" + what + ")", legs.count(what), model.count(what));
            }
            default -> fromRow();
        }
    }

    private void fromRow() {
        int shelf = random.nextInt(8) == 0 ? place(6) : 5;
        if (random.nextBoolean()) {
            row(5, 0, random.nextInt(20));
            for (int i = 0; i < 16; i++) {
                put(5, i, random.nextInt(14) == 0 ? place(20) - 5 : i % 4 == 3 ? random.nextInt(19) - 9 : 1 + random.nextInt(9));
            }
        }
        int i = random.nextInt(6) == 0 ? place(61) : random.nextInt(3);
        int n = random.nextInt(6) == 0 ? place(10) : 1 + random.nextInt(2);
        same("swimmers(" + shelf + ", " + i + ", " + n + ")", legs.swimmers(shelf, i, n), model.swimmers(shelf, i, n));
    }
}
