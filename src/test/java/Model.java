import java.lang.reflect.Array;
import java.util.ArrayDeque;
import java.util.ArrayList;
import java.util.Arrays;
import java.util.Deque;
import java.util.List;

/**
 * The document written down a second time, as naively as can be and in other ways than in EightLegs
 * (subsets tried one by one, texts split from outside, a real hierarchy of classes), to be compared
 * with it. It may use the whole library and may be slow.
 */
final class Model {
    static final int BAD = -1, NOT = -2, FULL = -3, STATE = -5, VOID = -2000000000;

    private static final class Swimmer {
        int x, y, tall = 5, breath = 12, quick, late, tired, gasped;

        Swimmer copy() {
            Swimmer s = new Swimmer();
            s.x = x;
            s.y = y;
            s.tall = tall;
            s.breath = breath;
            s.quick = quick;
            s.late = late;
            return s;
        }
    }

    private record Change(int number, int what, int before, int after) {
    }

    private final List<Swimmer> all = new ArrayList<>();
    private int leader, seen = 25, gasp = 1;
    private final List<Change> undoable = new ArrayList<>();
    private final Deque<Change> redoable = new ArrayDeque<>();
    private final StringBuilder tape = new StringBuilder();
    private String law;
    private final Object[] shelves = new Object[6];
    private final List<Kept> bodies = new ArrayList<>();
    private final List<Integer> trace = new ArrayList<>();
    private int[] led = new int[5];
    private int[] ledThen;
    private List<int[]> then;

    // ---- swimmers

    int swimmer(int xy, int tall) {
        if (xy < 0 || xy / 100 > 15 || xy % 100 > 15 || tall < 1 || tall > 9) {
            return BAD;
        }
        if (all.size() == 8) {
            return FULL;
        }
        Swimmer s = new Swimmer();
        s.x = xy % 100;
        s.y = xy / 100;
        s.tall = tall;
        all.add(s);
        return all.size() - 1;
    }

    int swimmers(int shelf, int i, int n) {
        if (shelf < 0 || shelf > 5 || n < 1 || n > 8) {
            return BAD;
        }
        if (shelves[shelf] != null && !(shelves[shelf] instanceof byte[])) {
            return -12;
        }
        byte[] row = shelves[shelf] instanceof byte[] bytes ? bytes : new byte[0];
        byte[] rest = i >= 0 && i < row.length ? Arrays.copyOfRange(row, i, row.length) : new byte[0];
        int came = 0;
        while (came < n && all.size() < 8 && 4 * came + 4 <= rest.length) {
            int at = 4 * came;
            int x = rest[at], y = rest[at + 1], tall = rest[at + 2], quick = rest[at + 3];
            if (x < 0 || x > 15 || y < 0 || y > 15 || tall < 1 || tall > 9 || quick < -9 || quick > 9) {
                break;
            }
            swimmer(100 * y + x, tall);
            all.get(all.size() - 1).quick = quick;
            came++;
        }
        return came;
    }

    private boolean known(int number, int what) {
        if (what >= 0 && what <= 5) {
            return number >= 0 && number < all.size();
        }
        return what >= 6 && what <= 8 && number == 0;
    }

    private int value(int number, int what) {
        return switch (what) {
            case 0 -> all.get(number).x;
            case 1 -> all.get(number).y;
            case 2 -> all.get(number).tall;
            case 3 -> all.get(number).breath;
            case 4 -> all.get(number).quick;
            case 5 -> all.get(number).late;
            case 6 -> leader;
            case 7 -> seen;
            default -> gasp;
        };
    }

    private void set(int number, int what, int v) {
        switch (what) {
            case 0 -> all.get(number).x = v;
            case 1 -> all.get(number).y = v;
            case 2 -> all.get(number).tall = v;
            case 3 -> all.get(number).breath = v;
            case 4 -> all.get(number).quick = v;
            case 5 -> all.get(number).late = v;
            case 6 -> leader = v;
            case 7 -> seen = v;
            default -> gasp = v;
        }
    }

    int mend(int number, int what, int v) {
        if (!known(number, what)) {
            return VOID;
        }
        boolean fits = switch (what) {
            case 0, 1 -> v >= 0 && v < 16;
            case 2, 8 -> v > 0 && v < 10;
            case 3 -> v > 0 && v <= 60;
            case 4 -> v > -10 && v < 10;
            case 5 -> v >= 0 && v < 100;
            case 6 -> v >= 0 && v < 8;
            default -> v > 0 && v < 1000;
        };
        if (!fits) {
            return VOID;
        }
        int was = value(number, what);
        if (was != v) {
            undoable.add(new Change(number, what, was, v));
            if (undoable.size() > 40) {
                undoable.remove(0);
            }
            redoable.clear();
            set(number, what, v);
        }
        return was;
    }

    int of(int number, int what) {
        if (what == 9 || what == 10) {
            if (number < 0 || number >= all.size()) {
                return VOID;
            }
            return what == 9 ? all.get(number).tired : all.get(number).gasped;
        }
        return known(number, what) ? value(number, what) : VOID;
    }

    int undo() {
        if (undoable.isEmpty()) {
            return STATE;
        }
        Change c = undoable.remove(undoable.size() - 1);
        redoable.push(c);
        set(c.number, c.what, c.before);
        return undoable.size();
    }

    int redo() {
        if (redoable.isEmpty()) {
            return STATE;
        }
        Change c = redoable.pop();
        undoable.add(c);
        set(c.number, c.what, c.after);
        return redoable.size();
    }

    // ---- the law

    int feed(int letter) {
        if (letter < 0 || letter > 255) {
            return BAD;
        }
        if (tape.length() == 120) {
            return FULL;
        }
        tape.append((char) letter);
        return tape.length();
    }

    int law() {
        String text = tape.toString();
        tape.setLength(0);
        int fault = fault(text);
        if (fault >= 0) {
            return -100 - fault;
        }
        law = text;
        return 1;
    }

    private static final class Frame {
        boolean compared;
        int signs;
    }

    /** Goes letter by letter with no look ahead; below 0 for a text. */
    static int fault(String text) {
        Deque<Frame> frames = new ArrayDeque<>();
        frames.push(new Frame());
        boolean operand = true;
        boolean asked = false;
        int digits = 0;
        for (int i = 0; i < text.length(); i++) {
            char c = text.charAt(i);
            Frame top = frames.peek();
            if (operand) {
                int open = frames.size() - 1;
                for (Frame f : frames) {
                    open += f.signs;
                }
                if ("0123456789oedtks".indexOf(c) >= 0) {
                    digits = Character.isDigit(c) ? 1 : 4;
                    operand = false;
                    top.signs = 0;
                } else if ("(!-".indexOf(c) < 0 || open == 6) {
                    return i;
                } else if (c == '(') {
                    frames.push(new Frame());
                } else {
                    top.signs++;
                }
                continue;
            }
            if (c >= '0' && c <= '9' && digits < 4) {
                digits++;
                continue;
            }
            digits = 4;
            if ("|&+-*/%".indexOf(c) >= 0) {
                operand = true;
                if (c == '|' || c == '&') {
                    top.compared = false;
                }
            } else if ("<=>".indexOf(c) >= 0 && !top.compared) {
                operand = true;
                top.compared = true;
            } else if (c == ')' && frames.size() > 1) {
                frames.pop();
                frames.peek().signs = 0;
            } else if (c == '?' && frames.size() == 1 && !asked || c == ';' && frames.size() == 1) {
                operand = true;
                asked = c == '?';
                top.compared = false;
            } else {
                return i;
            }
        }
        return operand || frames.size() > 1 ? text.length() : -1;
    }

    private int marks(int o, int e, int d, int t, int k) {
        if (law == null) {
            return Math.min(99, o / seen * (e == 2 ? 2 : 1));
        }
        int[] named = {o, e, d, t, k, seen};
        int got = 0;
        for (String line : law.split(";")) {
            String[] parts = line.split("\\?");
            if (parts.length == 1 || worth(parts[0], named) != 0) {
                got = worth(parts[parts.length - 1], named);
                break;
            }
        }
        return got < 0 ? 0 : got > 99 ? 99 : got;
    }

    /** Splits at the last sign of the loosest sort that stands in no brackets. */
    private static int worth(String text, int[] named) {
        for (String signs : new String[] {"|", "&", "<=>", "+-", "*/%"}) {
            int deep = 0;
            for (int i = text.length() - 1; i > 0; i--) {
                char c = text.charAt(i);
                deep += c == ')' ? 1 : c == '(' ? -1 : 0;
                if (deep == 0 && signs.indexOf(c) >= 0 && "|&<=>+-*/%!(".indexOf(text.charAt(i - 1)) < 0) {
                    return joined(c, worth(text.substring(0, i), named), worth(text.substring(i + 1), named));
                }
            }
        }
        char first = text.charAt(0);
        if (first == '(') {
            return worth(text.substring(1, text.length() - 1), named);
        }
        if (first == '!' || first == '-') {
            int of = worth(text.substring(1), named);
            return first == '-' ? -of : of == 0 ? 1 : 0;
        }
        int name = "oedtks".indexOf(first);
        return name >= 0 ? named[name] : Integer.parseInt(text);
    }

    private static int joined(char sign, int a, int b) {
        return switch (sign) {
            case '|' -> a != 0 || b != 0 ? 1 : 0;
            case '&' -> a != 0 && b != 0 ? 1 : 0;
            case '<' -> a < b ? 1 : 0;
            case '=' -> a == b ? 1 : 0;
            case '>' -> a > b ? 1 : 0;
            case '+' -> (int) ((long) a + b);
            case '-' -> (int) ((long) a - b);
            case '*' -> (int) ((long) a * b);
            case '/' -> b == 0 ? 0 : (int) ((long) a / b);
            default -> b == 0 ? 0 : (int) ((long) a % b);
        };
    }

    int loses(int ab, int o, int ek) {
        if (ab < 0 || ab / 10 >= all.size() || ab % 10 >= all.size() || ab / 10 == ab % 10) {
            return BAD;
        }
        if (o < 0 || o > 9999 || ek < 0 || ek / 100 > 4 || ek % 100 > 59) {
            return BAD;
        }
        return marksOfTwo(ab / 10, ab % 10, o, ek / 100, ek % 100);
    }

    private int marksOfTwo(int a, int b, int o, int e, int k) {
        Swimmer p = all.get(a), q = all.get(b);
        return marks(o, e, Math.abs(p.x - q.x) + Math.abs(p.y - q.y), Math.abs(p.tall - q.tall), k);
    }

    // ---- a routine in thought

    private Object held(int shelf) {
        return shelf < 0 || shelf > 5 ? null : shelves[shelf];
    }

    private int refused(int shelf) {
        if (shelf < 0 || shelf > 5) {
            return BAD;
        }
        return shelves[shelf] == null ? -11 : shelves[shelf] instanceof byte[] ? 0 : -12;
    }

    private int[] routine(int shelf) {
        byte[] row = (byte[]) shelves[shelf];
        int n = 0;
        while (n < row.length && row[n] >= 0 && row[n] <= 4) {
            n++;
        }
        int[] acts = new int[n];
        for (int k = 0; k < n; k++) {
            acts[k] = row[k];
        }
        return acts;
    }

    /** Drifts behind each count; extra[k][one] comes with the count, slip[k][one] behind it. */
    private int[][] drifts(int[] acts, int[][] extra, int[][] slip) {
        int[][] drifts = new int[acts.length + 1][all.size()];
        for (int k = 0; k < acts.length; k++) {
            for (int one = 0; one < all.size(); one++) {
                drifts[k + 1][one] = drifts[k][one] + all.get(one).quick + (extra == null ? 0 : extra[k][one]);
            }
            if (acts[k] == 4 && leader < all.size()) {
                Arrays.fill(drifts[k + 1], drifts[k + 1][leader]);
            }
            for (int one = 0; slip != null && one < all.size(); one++) {
                drifts[k + 1][one] += slip[k][one];
            }
        }
        return drifts;
    }

    private int apart(int[] drift, int a, int b) {
        return Math.abs(drift[a] - all.get(a).late - drift[b] + all.get(b).late);
    }

    private int widest(int[] drift) {
        int most = 0;
        for (int a = 0; a < all.size(); a++) {
            for (int b = 0; b < a; b++) {
                most = Math.max(most, apart(drift, a, b));
            }
        }
        return most;
    }

    private int lost(int[] acts, int[][] extra, int[][] slip, int[][] byTwo) {
        int[][] drifts = drifts(acts, extra, slip);
        int sum = 0;
        for (int a = 0; a < all.size(); a++) {
            for (int b = a + 1; b < all.size(); b++) {
                for (int k = 0; k < acts.length; k++) {
                    int m = marksOfTwo(a, b, apart(drifts[k + 1], a, b), acts[k], k);
                    sum += m;
                    if (byTwo != null) {
                        byTwo[a][b] += m;
                    }
                }
            }
        }
        return sum;
    }

    private int firstSeen(int[] acts) {
        int[][] drifts = drifts(acts, null, null);
        for (int k = 0; k < acts.length; k++) {
            if (all.size() > 1 && widest(drifts[k + 1]) >= seen) {
                return k;
            }
        }
        return NOT;
    }

    int routine(int shelf, int what) {
        if (what < 0 || what > 3) {
            return BAD;
        }
        int no = refused(shelf);
        if (no != 0) {
            return no;
        }
        int[] acts = routine(shelf);
        if (what == 0) {
            return acts.length;
        }
        if (what == 2) {
            return firstSeen(acts);
        }
        int[][] byTwo = new int[8][8];
        int sum = lost(acts, null, null, byTwo);
        if (what == 1) {
            return sum;
        }
        int best = NOT, most = 0;
        for (int two = 0; two < 80; two++) {
            if (two % 10 < 8 && byTwo[two / 10][two % 10] > most) {
                most = byTwo[two / 10][two % 10];
                best = two;
            }
        }
        return best;
    }

    int off(int shelf, int n, int one) {
        if (n < 0 || n > 60 || one < 0 || one >= all.size() || refused(shelf) != 0) {
            return VOID;
        }
        int[] acts = routine(shelf);
        return drifts(acts, null, null)[Math.min(n, acts.length)][one] - all.get(one).late;
    }

    int apart(int shelf, int n, int what) {
        if (n < 0 || n > 60 || what < 0 || what > 1) {
            return BAD;
        }
        int no = refused(shelf);
        if (no != 0) {
            return no;
        }
        int[] acts = routine(shelf);
        int[] drift = drifts(acts, null, null)[Math.min(n, acts.length)];
        if (what == 0) {
            return widest(drift);
        }
        for (int two = 0; two < 80; two++) {
            int a = two / 10, b = two % 10;
            if (a < b && b < all.size() && apart(drift, a, b) == widest(drift)) {
                return two;
            }
        }
        return NOT;
    }

    private int gone(int[] acts, int breath) {
        for (int end = 0; end < acts.length; end++) {
            // go back to the latest count that ended gasp counts above on end
            int under = 0;
            for (int k = end; k >= 0; k--) {
                boolean whole = k - gasp + 1 >= 0;
                for (int g = 0; g < gasp && whole; g++) {
                    whole = acts[k - g] != 1 && acts[k - g] != 2;
                }
                if (whole) {
                    break;
                }
                under += acts[k] == 1 || acts[k] == 2 ? 1 : 0;
            }
            if (under > breath) {
                return end;
            }
        }
        return NOT;
    }

    private int goneBits(int[] acts) {
        int bits = 0;
        for (int one = 0; one < all.size(); one++) {
            bits |= gone(acts, all.get(one).breath) >= 0 ? 1 << one : 0;
        }
        return bits;
    }

    int gone(int shelf, int one) {
        if (one < -1 || one >= all.size()) {
            return BAD;
        }
        int no = refused(shelf);
        if (no != 0) {
            return no;
        }
        return one < 0 ? goneBits(routine(shelf)) : gone(routine(shelf), all.get(one).breath);
    }

    int least(int shelf, int one) {
        if (one < 0 || one >= all.size()) {
            return BAD;
        }
        int no = refused(shelf);
        if (no != 0) {
            return no;
        }
        int breath = 1;
        while (gone(routine(shelf), breath) != NOT) {
            breath++;
        }
        return breath;
    }

    int gasps(int shelf, int k) {
        return fewest(shelf, k, 1, 0);
    }

    int looks(int shelf, int k) {
        return fewest(shelf, k, 0, 4);
    }

    private int fewest(int shelf, int k, int from, int to) {
        if (k < -1) {
            return BAD;
        }
        int no = refused(shelf);
        if (no != 0) {
            return no;
        }
        int[] acts = routine(shelf);
        if (acts.length > 16) {
            return STATE;
        }
        List<Integer> places = new ArrayList<>();
        for (int i = 0; i < acts.length; i++) {
            if (acts[i] == from) {
                places.add(i);
            }
        }
        for (int size = 0; size <= Math.min(10, places.size()); size++) {
            List<Integer> found = search(acts, places, 0, size, to, new ArrayList<>());
            if (found != null) {
                return k == -1 ? size : k < size ? found.get(k) : NOT;
            }
        }
        return NOT;
    }

    private List<Integer> search(int[] acts, List<Integer> places, int at, int size, int to, List<Integer> chosen) {
        if (chosen.size() == size) {
            boolean fine = to == 0 ? goneBits(acts) == 0 : firstSeen(acts) == NOT;
            return fine ? chosen : null;
        }
        for (int i = at; i < places.size(); i++) {
            int was = acts[places.get(i)];
            acts[places.get(i)] = to;
            chosen.add(places.get(i));
            List<Integer> found = search(acts, places, i + 1, size, to, chosen);
            if (found != null) {
                return found;
            }
            chosen.remove(chosen.size() - 1);
            acts[places.get(i)] = was;
        }
        return null;
    }

    int whose(int shelf, int what) {
        if (what < 0 || what > 1) {
            return BAD;
        }
        int no = refused(shelf);
        if (no != 0) {
            return no;
        }
        int was = leader;
        int[] lost = new int[all.size()];
        for (int one = 0; one < lost.length; one++) {
            leader = one;
            lost[one] = lost(routine(shelf), null, null, null);
        }
        leader = was;
        return firstLeast(lost, what);
    }

    int first(int shelf, int what) {
        if (what < 0 || what > 1) {
            return BAD;
        }
        int no = refused(shelf);
        if (no != 0) {
            return no;
        }
        int[] lost = new int[all.size()];
        for (int one = 0; one < lost.length; one++) {
            int was = all.get(one).quick;
            all.get(one).quick = 0;
            lost[one] = lost(routine(shelf), null, null, null);
            all.get(one).quick = was;
        }
        return firstLeast(lost, what);
    }

    private static int firstLeast(int[] lost, int what) {
        int least = Arrays.stream(lost).min().orElse(NOT);
        for (int one = 0; one < lost.length; one++) {
            if (lost[one] == least) {
                return what == 0 ? one : least;
            }
        }
        return NOT;
    }

    int slip(int shelf, int ok, int v) {
        if (ok < 0 || ok / 100 >= all.size() || ok % 100 > 59 || v < -99 || v > 99) {
            return BAD;
        }
        int no = refused(shelf);
        if (no != 0) {
            return no;
        }
        int[][] slip = new int[60][8];
        slip[ok % 100][ok / 100] = v;
        return lost(routine(shelf), null, slip, null);
    }

    // ---- lines, lifts, stars

    int line(int slant, int k) {
        if (slant < 0 || slant > 9 || k < -1) {
            return BAD;
        }
        if (all.size() > 6) {
            return STATE;
        }
        List<List<Integer>> orders = new ArrayList<>();
        orders(new ArrayList<>(), orders);
        List<Integer> best = null;
        for (List<Integer> order : orders) {
            if (best == null || spread(order, slant) < spread(best, slant)) {
                best = order;
            }
        }
        if (k == -1) {
            return spread(best, slant);
        }
        return k < best.size() ? best.get(k) : NOT;
    }

    private void orders(List<Integer> begun, List<List<Integer>> into) {
        if (begun.size() == all.size()) {
            into.add(new ArrayList<>(begun));
        }
        for (int one = 0; one < all.size(); one++) {
            if (!begun.contains(one)) {
                begun.add(one);
                orders(begun, into);
                begun.remove(begun.size() - 1);
            }
        }
    }

    private int spread(List<Integer> order, int slant) {
        int spread = 0;
        for (int i = 0; i < order.size(); i++) {
            for (int j = 0; j < i; j++) {
                int si = all.get(order.get(i)).tall - slant * i;
                int sj = all.get(order.get(j)).tall - slant * j;
                spread = Math.max(spread, Math.abs(si - sj));
            }
        }
        return spread;
    }

    int lift(int what) {
        if (what < 0 || what > 1) {
            return BAD;
        }
        int n = all.size();
        for (int more = 0; more <= 27; more++) {
            for (int her = 0; her < n; her++) {
                // the least bits: the greatest number first, from below
                for (int c = 2; c < n; c++) {
                    for (int b = 1; b < c; b++) {
                        for (int a = 0; a < b; a++) {
                            int sum = all.get(a).tall + all.get(b).tall + all.get(c).tall;
                            if (a != her && b != her && c != her && sum == 3 * all.get(her).tall + more) {
                                return what == 0 ? her : (1 << a) + (1 << b) + (1 << c);
                            }
                        }
                    }
                }
            }
        }
        return NOT;
    }

    int star(int what) {
        if (what < 0 || what > 2) {
            return BAD;
        }
        int n = all.size();
        if (what == 0) {
            for (int size = 0; size <= 16; size++) {
                for (int x = 0; x < 16; x++) {
                    for (int y = 0; y < 16; y++) {
                        int left = x, low = y, wide = size;
                        if (all.stream().allMatch(s -> s.x >= left && s.x < left + wide && s.y >= low && s.y < low + wide)) {
                            return size;
                        }
                    }
                }
            }
        }
        int bits = 0;
        boolean mirror = true;
        for (int a = 0; a < n; a++) {
            boolean hasOne = false;
            for (int b = 0; b < n; b++) {
                Swimmer p = all.get(a), q = all.get(b);
                bits |= a != b && p.x == q.x && p.y == q.y ? 1 << a : 0;
                hasOne |= p.x + q.x == 15 && p.y == q.y;
            }
            mirror &= hasOne;
        }
        return what == 1 ? bits : mirror ? 1 : 0;
    }

    // ---- ripples

    private int refusedRipples(int sr) {
        if (sr < 0 || sr / 10 > 5 || sr % 10 > 5) {
            return BAD;
        }
        if (shelves[sr / 10] == null || shelves[sr % 10] == null) {
            return -11;
        }
        return shelves[sr / 10] instanceof byte[] && shelves[sr % 10] instanceof short[] ? 0 : -12;
    }

    private int judged(int sr) {
        int[] acts = routine(sr / 10);
        short[] ripples = (short[]) shelves[sr % 10];
        int[][] drifts = drifts(acts, null, null);
        for (int k = 0; k < acts.length && k < ripples.length; k++) {
            if (ripples[k] != widest(drifts[k + 1])) {
                return k;
            }
        }
        return NOT;
    }

    int judge(int sr) {
        int no = refusedRipples(sr);
        return no != 0 ? no : judged(sr);
    }

    int whoLed(int sr) {
        int no = refusedRipples(sr);
        if (no != 0) {
            return no;
        }
        int was = leader;
        int bits = 0;
        for (int one = 0; one < all.size(); one++) {
            leader = one;
            bits += judged(sr) == NOT ? 1 << one : 0;
        }
        leader = was;
        return bits;
    }

    int later(int sr, int one) {
        if (one < 0 || one >= all.size()) {
            return BAD;
        }
        int no = refusedRipples(sr);
        return no != 0 ? no : tried(sr, one, 5, 0, 99, NOT);
    }

    int quicker(int sr, int one) {
        if (one < 0 || one >= all.size() || refusedRipples(sr) == BAD) {
            return VOID;
        }
        int no = refusedRipples(sr);
        return no != 0 ? no : tried(sr, one, 4, -9, 9, -99);
    }

    private int tried(int sr, int one, int what, int least, int most, int none) {
        int was = value(one, what);
        int found = none;
        for (int v = most; v >= least; v--) {
            set(one, what, v);
            found = judged(sr) == NOT ? v : found;
        }
        set(one, what, was);
        return found;
    }

    int drawn(int shelf, int seed, int ns, int what) {
        if (ns < 100 || ns > 3012 || ns % 100 > 12 || what < 0 || what > 1) {
            return BAD;
        }
        int no = refused(shelf);
        if (no != 0) {
            return no;
        }
        int[] acts = routine(shelf);
        int z = seed, sum = 0, clean = 0;
        for (int training = 0; training < ns / 100; training++) {
            int[][] extra = new int[acts.length][all.size()];
            for (int[] count : extra) {
                for (int one = 0; one < count.length; one++) {
                    z = z * 1103515245 + 12345;
                    count[one] = (z >>> 8) % 12 < ns % 100 ? 1 : 0;
                }
            }
            int lost = lost(acts, extra, null, null);
            sum += lost;
            clean += lost == 0 ? 1 : 0;
        }
        return what == 0 ? sum : clean;
    }

    // ---- in deed

    int swim(int shelf) {
        int no = refused(shelf);
        if (no != 0) {
            return no;
        }
        int[] acts = routine(shelf);
        int sum = lost(acts, null, null, null);
        led[0]++;
        led[1] += acts.length;
        led[2] += sum;
        for (Swimmer s : all) {
            if (gone(acts, s.breath) != NOT) {
                s.gasped++;
                led[3]++;
            }
            s.tired += (int) Arrays.stream(acts).filter(a -> a == 1 || a == 2).count();
            if (s.tired >= 100) {
                s.tired = 0;
                led[4]++;
            }
        }
        return sum;
    }

    int led(int what) {
        return what < 0 || what > 4 ? BAD : led[what];
    }

    int image() {
        ledThen = led.clone();
        then = new ArrayList<>();
        all.forEach(s -> then.add(new int[] {s.tired, s.gasped}));
        return led[0];
    }

    int back() {
        if (then == null) {
            return STATE;
        }
        led = ledThen.clone();
        for (int one = 0; one < all.size(); one++) {
            boolean was = one < then.size();
            all.get(one).tired = was ? then.get(one)[0] : 0;
            all.get(one).gasped = was ? then.get(one)[1] : 0;
        }
        return led[0];
    }

    // ---- acts, shelves

    private interface Counts {
        int number();

        void note(int body);

        default int counts(int x) {
            note(1);
            return x + number();
        }
    }

    private interface Tells {
        int turns(int x);

        int sinks(int x);

        void note(int body);

        default int tells(int x) {
            note(2);
            return turns(x) - sinks(1);
        }
    }

    private static class Kept implements Counts, Tells {
        final int n;
        final List<Integer> trace;

        Kept(int n, List<Integer> trace) {
            this.n = n;
            this.trace = trace;
        }

        public int number() {
            return n;
        }

        public void note(int body) {
            trace.add(body);
        }

        public int turns(int x) {
            note(10);
            return counts(x) * 2;
        }

        public int sinks(int x) {
            note(11);
            return x ^ n;
        }
    }

    private static class Legs extends Kept {
        Legs(int n, List<Integer> trace) {
            super(n, trace);
        }

        public int counts(int x) {
            note(20);
            return super.counts(x) + 3;
        }
    }

    private static class Breath extends Kept {
        Breath(int n, List<Integer> trace) {
            super(n, trace);
        }

        public int turns(int x) {
            note(30);
            return -super.turns(x);
        }
    }

    private static class Smile extends Breath {
        Smile(int n, List<Integer> trace) {
            super(n, trace);
        }

        public int sinks(int x) {
            note(40);
            return super.sinks(x) * 3;
        }

        public int turns(int x) {
            note(41);
            return super.turns(x + 1);
        }
    }

    private static class Lift extends Legs {
        Lift(int n, List<Integer> trace) {
            super(n, trace);
        }

        public int sinks(int x) {
            note(50);
            return super.sinks(x) - counts(2);
        }
    }

    private static final class Star extends Smile {
        Star(int n, List<Integer> trace) {
            super(n, trace);
        }

        public int tells(int x) {
            note(60);
            return super.tells(x) ^ 5;
        }
    }

    private static final class Echo extends Kept {
        Echo(int n, List<Integer> trace) {
            super(n, trace);
        }

        public int counts(int x) {
            note(70);
            return super.counts(x) * 2;
        }
    }

    private static final class Judge extends Lift {
        Judge(int n, List<Integer> trace) {
            super(n, trace);
        }

        public int turns(int x) {
            note(80);
            return super.turns(x) + sinks(2);
        }

        public int tells(int x) {
            note(81);
            return super.tells(x) - 1;
        }
    }

    private static final Class<?>[] KINDS = {
        Kept.class, Legs.class, Breath.class, Smile.class, Lift.class, Star.class, Echo.class, Judge.class};

    int body(int kind) {
        if (kind < 0 || kind > 7) {
            return BAD;
        }
        int n = bodies.size();
        if (n == 50) {
            return FULL;
        }
        bodies.add(switch (kind) {
            case 0 -> new Kept(n, trace);
            case 1 -> new Legs(n, trace);
            case 2 -> new Breath(n, trace);
            case 3 -> new Smile(n, trace);
            case 4 -> new Lift(n, trace);
            case 5 -> new Star(n, trace);
            case 6 -> new Echo(n, trace);
            default -> new Judge(n, trace);
        });
        return n;
    }

    int act(int body, int act, int x) {
        trace.clear();
        if (body < 0 || body >= bodies.size()) {
            return 0;
        }
        Kept kept = bodies.get(body);
        return switch (act) {
            case 0 -> kept.counts(x);
            case 1 -> kept.turns(x);
            case 2 -> kept.sinks(x);
            case 3 -> kept.tells(x);
            default -> 0;
        };
    }

    int trace(int i) {
        return i < 0 || i >= trace.size() || i >= 24 ? BAD : trace.get(i);
    }

    int keep(int shelf, int body) {
        if (shelf < 0 || shelf > 5 || body < -1 || body >= bodies.size()) {
            return BAD;
        }
        shelves[shelf] = body < 0 ? null : bodies.get(body);
        return 1;
    }

    int row(int shelf, int sort, int n) {
        if (shelf < 0 || shelf > 5 || sort < 0 || sort > 4 || n > 60) {
            return BAD;
        }
        if (n < 0) {
            return -14;
        }
        shelves[shelf] = switch (sort) {
            case 0 -> new byte[n];
            case 1 -> new short[n];
            case 2 -> new int[n];
            case 3 -> new long[n];
            default -> new boolean[n];
        };
        return 1;
    }

    int put(int shelf, int i, long v) {
        if (shelf < 0 || shelf > 5) {
            return BAD;
        }
        Object held = held(shelf);
        if (held == null) {
            return -11;
        }
        if (held instanceof Kept) {
            return -12;
        }
        if (i < 0 || i >= Array.getLength(held)) {
            return -13;
        }
        if (held instanceof byte[] row) {
            row[i] = (byte) v;
        } else if (held instanceof short[] row) {
            row[i] = (short) v;
        } else if (held instanceof int[] row) {
            row[i] = (int) v;
        } else if (held instanceof long[] row) {
            row[i] = v;
        } else if (held instanceof boolean[] row) {
            row[i] = v != 0;
        }
        return 1;
    }

    long element(int shelf, int i) {
        Object held = held(shelf);
        if (held == null || held instanceof Kept || i < 0 || i >= Array.getLength(held)) {
            return Long.MIN_VALUE;
        }
        if (held instanceof boolean[] row) {
            return row[i] ? 1 : 0;
        }
        return Array.getLong(held, i);
    }

    int shift(int shelf, int i, int other, int j, int n) {
        if (shelf < 0 || shelf > 5 || other < 0 || other > 5) {
            return BAD;
        }
        Object from = shelves[shelf], to = shelves[other];
        if (from == null || to == null) {
            return -11;
        }
        if (from instanceof Kept || from.getClass() != to.getClass()) {
            return -12;
        }
        long most = Math.min((long) Array.getLength(from) - i, (long) Array.getLength(to) - j);
        if (i < 0 || j < 0 || n < 0 || n > most) {
            return -13;
        }
        System.arraycopy(from, i, to, j, n);
        return n;
    }

    int taken(int shelf, int k) {
        if (shelf < 0 || shelf > 5 || k < 0 || k > 7) {
            return BAD;
        }
        if (shelves[shelf] == null) {
            return -11;
        }
        if (!KINDS[k].isInstance(shelves[shelf])) {
            return -12;
        }
        return Arrays.asList(KINDS).indexOf(shelves[shelf].getClass());
    }

    int count(int what) {
        return switch (what) {
            case 0 -> all.size();
            case 1 -> tape.length();
            case 2 -> undoable.size();
            case 3 -> bodies.size();
            case 4 -> trace.size();
            default -> BAD;
        };
    }
}
