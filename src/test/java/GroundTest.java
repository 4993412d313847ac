/** Promises 19 to 21: lines, lifts, stars. */
public final class GroundTest {
    private static final Check c = new Check("GroundTest");

    private GroundTest() {
    }

    public static void main(String[] args) {
        line();
        lineOfSix();
        lineWrong();
        lift();
        liftOfLikeOnes();
        starSize();
        onOneCell();
        mirror();
        inTheCorners();
        c.end();
    }

    private static EightLegs tall(int... tall) {
        EightLegs x = new EightLegs();
        for (int t : tall) {
            x.swimmer(0, t);
        }
        return x;
    }

    private static void line() {
        EightLegs x = tall(5, 3, 4);
        c.due("19 no slant", x.line(0, -1), 2);
        for (int place = 0; place < 3; place++) {
            c.due("19 of like ones the first by numbers", x.line(0, place), place);
        }
        c.due("19 slant 1", x.line(1, -1), 0);
        int[] order = {1, 2, 0};
        for (int place = 0; place < 3; place++) {
            c.due("19 the k-th", x.line(1, place), order[place]);
        }
        c.due("19 there are not as many", x.line(1, 3), Check.NOT);
        c.due("19 far beyond", x.line(1, Check.HIGH), Check.NOT);
        // 3, 4 - 9, 5 - 18
        c.due("19 slant 9", x.line(9, -1), 16);
        c.due("19 one alone", tall(7).line(9, -1), 0);
        c.due("19 one alone", tall(7).line(9, 0), 0);
        c.due("19 nobody", tall().line(9, -1), 0);
        c.due("19 nobody", tall().line(9, 0), Check.NOT);
        // of 1, 9, 5: 1 5-5 9-10 is 0 .. 1 .. -1
        c.due("19 slant 5", tall(1, 9, 5).line(5, -1), 2);
        c.due("19 slant 5", tall(1, 9, 5).line(5, 1), 2);
    }

    private static void lineOfSix() {
        EightLegs x = tall(9, 1, 8, 2, 7, 3);
        int[] order = {1, 3, 5, 4, 2, 0};
        c.due("19 six at slant 1", x.line(1, -1), 3);
        // 1, 2 - 2, 3 - 4, 7 - 6, 8 - 8, 9 - 10: 1 .. -1
        c.due("19 six at slant 2", x.line(2, -1), 2);
        for (int place = 0; place < 6; place++) {
            c.due("19 the k-th of six", x.line(2, place), order[place]);
        }
        c.due("19 not as many", x.line(2, 6), Check.NOT);
        // only the last of the 720 orders is level
        EightLegs y = tall(6, 5, 4, 3, 2, 1);
        c.due("19 the last order", y.line(1, -1), 0);
        for (int place = 0; place < 6; place++) {
            c.due("19 the last order", y.line(1, place), 5 - place);
        }
    }

    private static void lineWrong() {
        EightLegs x = tall(1, 2, 3, 4, 5, 6);
        int[] slants = {-1, 10, Check.LOW, Check.HIGH};
        for (int slant : slants) {
            c.due("19 slant " + slant, x.line(slant, -1), Check.BAD);
        }
        c.due("19 k -2", x.line(0, -2), Check.BAD);
        c.due("19 k far below", x.line(0, Check.LOW), Check.BAD);
        x.swimmer(0, 7);
        c.due("19 seven", x.line(0, -1), Check.STATE);
        c.due("19 seven", x.line(0, 0), Check.STATE);
        c.due("19 seven, and not as many", x.line(0, 7), Check.STATE);
        c.due("19 BAD ahead of STATE", x.line(10, 0), Check.BAD);
        c.due("19 BAD ahead of STATE", x.line(0, -2), Check.BAD);
    }

    private static void lift() {
        EightLegs x = tall(2, 9, 3, 4);
        // 9 + 3 + 4 is 16, by 10 more than 3 * 2; 2 + 9 + 3 by 2 more than 12; 2 + 9 + 4 by 6 more than 9
        c.due("20 she", x.lift(0), 3);
        c.due("20 who", x.lift(1), 7);
        int[] whats = {-1, 2, Check.LOW, Check.HIGH};
        for (int what : whats) {
            c.due("20 what " + what, x.lift(what), Check.BAD);
        }
        c.due("20 three can't", tall(1, 9, 9).lift(0), Check.NOT);
        c.due("20 three can't", tall(1, 9, 9).lift(1), Check.NOT);
        c.due("20 nobody", tall().lift(1), Check.NOT);
        c.due("20 too tall for the others, but one is not", tall(9, 8, 8, 9).lift(0), 1);
        c.due("20 three times hers", tall(4, 3, 4, 5).lift(0), 0);
        c.due("20 who", tall(4, 3, 4, 5).lift(1), 14);
        // 6 is too tall for 5 + 5 + 5
        c.due("20 not the tall one", tall(6, 5, 5, 5).lift(0), 1);
        c.due("20 who", tall(6, 5, 5, 5).lift(1), 13);
    }

    private static void liftOfLikeOnes() {
        c.due("20 the least of her", tall(5, 5, 5, 5, 5, 5, 5, 5).lift(0), 0);
        c.due("20 then least bits", tall(5, 5, 5, 5, 5, 5, 5, 5).lift(1), 14);
        c.due("20 the last ones", tall(1, 1, 1, 1, 9, 9, 9, 9).lift(0), 0);
        c.due("20 who", tall(1, 1, 1, 1, 9, 9, 9, 9).lift(1), 14);
        c.due("20 exactly, though later", tall(1, 2, 9, 9, 8, 8, 8, 8).lift(0), 4);
        c.due("20 exactly, though later", tall(1, 2, 9, 9, 8, 8, 8, 8).lift(1), 224);
        c.due("20 never herself", tall(9, 1, 1, 1).lift(0), 1);
        c.due("20 never herself", tall(9, 1, 1, 1).lift(1), 13);
    }

    private static void starSize() {
        EightLegs x = new EightLegs();
        c.due("21 none", x.star(0), 0);
        x.swimmer(707, 5);
        c.due("21 one alone", x.star(0), 1);
        x.swimmer(707, 5);
        c.due("21 two on one cell", x.star(0), 1);
        x.swimmer(709, 5);
        c.due("21 along X", x.star(0), 3);
        x.swimmer(307, 5);
        c.due("21 along Y", x.star(0), 5);
        x.swimmer(708, 5);
        c.due("21 within", x.star(0), 5);
        x.swimmer(15, 5);
        c.due("21 wider", x.star(0), 9);
        x.swimmer(1500, 5);
        c.due("21 all", x.star(0), 16);
        for (int extreme = 0; extreme < 4; extreme++) {
            EightLegs y = new EightLegs();
            for (int one = 0; one < 4; one++) {
                y.swimmer(one == extreme ? 307 : 707, 5);
            }
            c.due("21 one of them below", y.star(0), 5);
            y.mend(extreme, 1, 9);
            c.due("21 one of them above", y.star(0), 3);
            y.mend(extreme, 0, 0);
            c.due("21 one of them beside", y.star(0), 8);
        }
        int[] whats = {-1, 3, Check.LOW, Check.HIGH};
        for (int what : whats) {
            c.due("21 what " + what, x.star(what), Check.BAD);
        }
    }

    private static void onOneCell() {
        EightLegs x = new EightLegs();
        c.due("21 nobody", x.star(1), 0);
        int[] cells = {101, 102, 201, 102, 303, 101, 102, 1010};
        int[] dues = {0, 0, 0, 2 + 8, 2 + 8, 1 + 2 + 8 + 32, 1 + 2 + 8 + 32 + 64, 1 + 2 + 8 + 32 + 64};
        for (int i = 0; i < cells.length; i++) {
            x.swimmer(cells[i], 5);
            c.due("21 bits of those on one cell", x.star(1), dues[i]);
        }
        x.mend(7, 0, 3);
        x.mend(7, 1, 3);
        c.due("21 the last one came, too", x.star(1), 255 - 4);
    }

    private static void mirror() {
        EightLegs x = new EightLegs();
        c.due("21 nobody", x.star(2), 1);
        x.swimmer(407, 5);
        c.due("21 one alone is no mirror", x.star(2), 0);
        x.swimmer(408, 5);
        c.due("21 7 and 8", x.star(2), 1);
        x.swimmer(408, 5);
        c.due("21 two have the same one", x.star(2), 1);
        x.swimmer(500, 5);
        c.due("21 one has none", x.star(2), 0);
        x.swimmer(415, 5);
        c.due("21 Y is not alike", x.star(2), 0);
        x.mend(4, 1, 5);
        c.due("21 all have one", x.star(2), 1);
        x.mend(4, 0, 14);
        c.due("21 beside", x.star(2), 0);
    }

    /** Nobody stands at (0, 0) but who was told so, however many there are. */
    private static void inTheCorners() {
        for (int corner : new int[] {0, 15, 1500, 1515}) {
            int across = corner - corner % 100 + 15 - corner % 100;
            for (int many = 1; many <= 8; many++) {
                EightLegs x = new EightLegs();
                for (int one = 0; one < many - 1; one++) {
                    x.swimmer(100 * one + 107, 5);
                }
                x.swimmer(corner, 5);
                c.due("21 alone on her cell", x.star(1), 0);
                c.due("21 nobody is across", x.star(2), 0);
                x.mend(0, 0, corner % 100);
                x.mend(0, 1, corner / 100);
                c.due("21 two on it", x.star(1), many == 1 ? 0 : 1 + (1 << many - 1));
            }
            EightLegs y = new EightLegs();
            y.swimmer(corner, 5);
            y.swimmer(across, 5);
            c.due("21 across", y.star(2), 1);
            c.due("21 not on one cell", y.star(1), 0);
            c.due("21 as wide as can be", y.star(0), 16);
        }
    }
}
