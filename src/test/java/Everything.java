import java.util.ArrayList;
import java.util.List;

/** All that can be seen of an object, so that two objects can be compared; the object is used up by it. */
final class Everything {
    private final EightLegs x;
    private final List<Long> seen = new ArrayList<>();

    private Everything(EightLegs x) {
        this.x = x;
    }

    /** Some 370 calls: whatever was done ahead must have left room for them. */
    static List<Long> of(EightLegs x) {
        Everything all = new Everything(x);
        all.numbers();
        all.shelvesAndActs();
        all.changes();
        all.imageAndTape();
        return all.seen;
    }

    private void add(long answer) {
        seen.add(answer);
    }

    private void numbers() {
        for (int what = 0; what <= 4; what++) {
            add(x.count(what));
            add(x.led(what));
        }
        for (int one = 0; one <= 7; one++) {
            for (int what = 0; what <= 10; what++) {
                add(x.of(one, what));
            }
        }
        for (int act = 0; act <= 4; act++) {
            add(x.loses(1, 77, 100 * act + 3));
        }
    }

    private void shelvesAndActs() {
        for (int shelf = 0; shelf <= 5; shelf++) {
            add(x.taken(shelf, 0));
            add(x.put(shelf, 60, 0));
            for (int i = 0; i <= 9; i++) {
                add(x.element(shelf, i));
            }
            add(x.element(shelf, 16));
            add(x.element(shelf, 17));
        }
        for (int i = 0; i <= 15; i++) {
            add(x.trace(i));
        }
    }

    /** Back to the oldest change that is kept, and forth to the latest. */
    private void changes() {
        int done = x.count(2);
        for (int i = 0; i <= done; i++) {
            add(x.undo());
            numberOfEach();
        }
        for (int i = 0; i <= 10; i++) {
            add(x.redo());
            numberOfEach();
        }
    }

    private void numberOfEach() {
        add(x.of(0, 4));
        add(x.of(1, 5));
        add(x.of(0, 7));
        add(x.of(7, 3));
    }

    private void imageAndTape() {
        add(x.back());
        for (int what = 0; what <= 4; what++) {
            add(x.led(what));
        }
        for (int one = 0; one <= 7; one++) {
            add(x.of(one, 9));
            add(x.of(one, 10));
        }
        // a text that was begun shows what it is when it is ended
        add(x.feed(')'));
        add(x.law());
        add(x.loses(1, 77, 203));
    }
}
