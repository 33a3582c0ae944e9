/** Promises 31 to 37: keep, back, sheet, lay, read, torn, count. */
public final class SheetTest {
    private static final int BAD = VowTerrace.BAD, STATE = VowTerrace.STATE, NONE = VowTerrace.NONE;
    private static final int LEAST = Integer.MIN_VALUE, MOST = Integer.MAX_VALUE;

    public static void main(String[] args) {
        images();
        imagesAndTape();
        sheet();
        lay();
        read();
        readWrong();
        readRefused();
        readOfNothing();
        tornIsOfTheLatest();
        count();
        Due.finish("SheetTest");
    }

    private static VowTerrace three() {
        return Due.told("row 3;deed 1;deed 2;house 1 9 0 1;lawyer 2;habit 0 left 1 3;vow 0 plain 0 0;vow 0 plain 9 1;vow 1 plain 0 0;vow 1 joint 0 0;want 1 1;");
    }

    private static void images() {
        VowTerrace x = three();
        Due.is("back(0)", x.back(0), STATE);
        for (int wrong : new int[] {-1, 2, LEAST, MOST}) {
            Due.is("keep(" + wrong + ")", x.keep(wrong), BAD);
            Due.is("back(" + wrong + ")", x.back(wrong), BAD);
        }
        Due.is("keep(0)", x.keep(0), 0);
        x.go(1);
        Due.is("back(1)", x.back(1), STATE);
        Due.is("keep(1)", x.keep(1), 0);
        Due.is("keep(1)", x.keep(1), 1);
        String day1 = State.of(x);
        x.go(2);
        x.fund(0, 5);
        x.can(0, 1, true);
        x.lawyer(0, true);
        x.habit(2, 1, 1, 9);
        x.vows(2, 2, 2, 0);
        x.drop(1, 0);
        Due.is("back(1)", x.back(1), 1);
        Due.is("all as it was", State.of(x).equals(day1) ? 1 : 0, 1);
        Due.is("back(0)", x.back(0), 0);
        Due.is("house(1, 10)", x.house(1, 10), 0);
        Due.is("house(1, 0)", x.house(1, 0), 9);
        Due.is("rule(3)", x.rule(3), 4);
        Due.is("rule(7)", x.rule(7), 0);
        x.fund(1, 1);
        Due.is("back(0) again", x.back(0), 0);
        Due.is("house(1, 0)", x.house(1, 0), 9);
        Due.is("count(3)", x.count(3), 2);
    }

    private static void imagesAndTape() {
        VowTerrace x = three();
        x.keep(0);
        Due.feed(x, "ring");
        x.sheet(0, 2, 7);
        x.back(0);
        Due.is("count(4)", x.count(4), 4);
        Due.is("count(5)", x.count(5), 7);
        Due.is("text()", x.text(), -14);
        Due.is("back(0): a refused text leaves images", x.back(0), 0);
        Due.is("fault()", x.fault(), 2);
    }

    private static void sheet() {
        VowTerrace x = new VowTerrace();
        int[][] wrong = {{-1, 0, 1}, {4, 0, 1}, {0, -1, 1}, {0, 3, 1}, {0, 0, 41}, {0, 0, MOST}, {4, 0, -1}, {0, 3, -1}};
        for (int[] w : wrong) {
            Due.is("sheet wrong", x.sheet(w[0], w[1], w[2]), BAD);
        }
        Due.is("sheet(0, 0, -1)", x.sheet(0, 0, -1), -14);
        Due.is("sheet(0, 0, least)", x.sheet(0, 0, LEAST), -14);
        Due.is("count(5)", x.count(5), NONE);
        Due.is("sheet(0, 2, 0)", x.sheet(0, 2, 0), 1);
        Due.is("count(5)", x.count(5), 0);
        Due.is("sheet(0, 1, 40)", x.sheet(0, 1, 40), 1);
        Due.is("sheet(0, 1, -5)", x.sheet(0, 1, -5), -14);
        Due.is("count(5)", x.count(5), 40);
        Due.is("sheet(3, 2, 4)", x.sheet(3, 2, 4), 1);
    }

    private static void lay() {
        VowTerrace x = three();
        Due.is("lay(-1, 0, 0)", x.lay(-1, 0, 0), BAD);
        Due.is("lay(4, 0, 0)", x.lay(4, 0, 0), BAD);
        Due.is("lay(3, 0, 0)", x.lay(3, 0, 0), -11);
        Due.is("lay(3, -1, 0)", x.lay(3, -1, 0), -11);
        x.sheet(3, 0, 4);
        for (int wrong : new int[] {-1, 4, LEAST, MOST}) {
            Due.is("lay(3, " + wrong + ", 0)", x.lay(3, wrong, 0), -12);
        }
        x.drop(0, 0);
        Due.is("lay(3, 0, 257)", x.lay(3, 0, 257), 1);
        Due.is("lay(3, 2, -253)", x.lay(3, 2, -253), 1);
        Due.is("read(3, 0, 0, 1)", x.read(3, 0, 0, 1), 1);
        Due.is("vow(0, 0)", x.vow(0, 0), 1);
        Due.is("vow(0, 2)", x.vow(0, 2), 3);
        Due.is("lay(3, 0, 255)", x.lay(3, 0, 255), 1);
        Due.is("read(3, 0, 0, 1): it is -1", x.read(3, 0, 0, 1), -20);
        x.sheet(2, 1, 4);
        x.lay(2, 3, 65537);
        Due.is("read(2, 1, 0, 1)", x.read(2, 1, 0, 1), 1);
        Due.is("vow(1, 3)", x.vow(1, 3), 1);
        x.lay(2, 3, 257);
        Due.is("read(2, 1, 0, 1)", x.read(2, 1, 0, 1), -20);
        x.sheet(1, 2, 4);
        x.lay(1, 3, 65537);
        Due.is("read(1, 2, 0, 1)", x.read(1, 2, 0, 1), -20);
        Due.is("sheet(1, 2, 4): new cells are 0", x.sheet(1, 2, 4), 1);
        Due.is("read(1, 2, 0, 1)", x.read(1, 2, 0, 1), 1);
        x.sheet(1, 2, 0);
        Due.is("lay(1, 0, 0)", x.lay(1, 0, 0), -12);
    }

    private static void read() {
        VowTerrace x = three();
        x.drop(0, 0);
        x.sheet(1, 2, 11);
        int[] cells = {9, 2, 4, 9, 1, 1, 3, 2, 0};
        for (int i = 0; i < cells.length; i++) {
            x.lay(1, i, cells[i]);
        }
        Due.is("read(1, 2, 1, 2)", x.read(1, 2, 1, 2), 2);
        Due.is("torn()", x.torn(), 0);
        int[][] due = {{2, 4, 9, 1}, {1, 3, 2, 0}};
        for (int i = 0; i < due.length; i++) {
            for (int what = 0; what < 4; what++) {
                Due.is("vow(" + i + ", " + what + ")", x.vow(i, what), due[i][what]);
            }
        }
        Due.is("read(1, 2, 1, 0)", x.read(1, 2, 1, 0), 0);
        Due.is("read(1, 2, 1, 10): two cells are left", x.read(1, 2, 1, 10), 2);
        Due.is("torn()", x.torn(), 2);
        Due.is("rule(3)", x.rule(3), 4);
        Due.is("read(1, 2, 7, 1)", x.read(1, 2, 7, 1), 1);
        Due.is("torn()", x.torn(), 0);
        for (int f : new int[] {-1, -4, 8, 11, MOST, MOST - 3, LEAST}) {
            Due.is("read(1, 2, " + f + ", 10)", x.read(1, 2, f, 10), 0);
            Due.is("torn()", x.torn(), 2);
        }
        for (int lane = 0; lane < 2; lane++) {
            Due.is("read(1, " + lane + ", 1, 1)", x.read(1, lane, 1, 1), 0);
            Due.is("torn()", x.torn(), 3);
        }
        Due.is("read(0, 1, 1, 1)", x.read(0, 1, 1, 1), 0);
        Due.is("torn()", x.torn(), 1);
        Due.is("rule(3)", x.rule(3), 5);
    }

    private static void readWrong() {
        VowTerrace x = three();
        x.sheet(0, 0, 40);
        x.read(1, 0, 0, 1);
        int[][] wrong = {{-1, 0, 0, 1}, {4, 0, 0, 1}, {0, -1, 0, 1}, {0, 3, 0, 1}, {0, 0, 0, -1}, {0, 0, 0, 11}};
        for (int[] w : wrong) {
            Due.is("read wrong", x.read(w[0], w[1], w[2], w[3]), BAD);
            Due.is("torn(): that did not come to an end", x.torn(), 1);
        }
        Due.is("rule(3)", x.rule(3), 4);
    }

    private static void readRefused() {
        VowTerrace x = three();
        x.sheet(0, 0, 40);
        x.lay(0, 10, 4);
        String before = State.of(x);
        Due.is("read(0, 0, 0, 4): the third", x.read(0, 0, 0, 4), -22);
        Due.is("nothing changed", State.of(x).equals(before) ? 1 : 0, 1);
        Due.is("read(0, 0, 0, 2)", x.read(0, 0, 0, 2), 2);
        Due.is("read(0, 0, 12, 5): the fifth is too many", x.read(0, 0, 12, 5), -24);
        Due.is("rule(3)", x.rule(3), 6);
        Due.is("read(0, 0, 12, 4)", x.read(0, 0, 12, 4), 4);
        Due.is("read(0, 0, 37, 1): not whole", x.read(0, 0, 37, 1), 0);
        Due.is("torn()", x.torn(), 2);
        Due.is("read(0, 0, 36, 1): whole, and full", x.read(0, 0, 36, 1), -20);
        Due.is("torn() as it was", x.torn(), 2);
        Due.is("rule(3)", x.rule(3), 10);
        // the one that is refused is met first, then the end of the row
        VowTerrace y = three();
        y.sheet(0, 1, 6);
        y.lay(0, 0, 3);
        Due.is("read(0, 1, 0, 2)", y.read(0, 1, 0, 2), -20);
        y.lay(0, 0, 0);
        y.lay(0, 4, 3);
        Due.is("read(0, 1, 0, 2): the second is not whole", y.read(0, 1, 0, 2), 1);
        Due.is("torn()", y.torn(), 2);
    }

    private static void readOfNothing() {
        VowTerrace x = three();
        Due.is("read(0, 0, 0, 0)", x.read(0, 0, 0, 0), 0);
        Due.is("torn(): no cell was asked for", x.torn(), 0);
        x.sheet(0, 0, 0);
        Due.is("read(0, 0, 99, 0)", x.read(0, 0, 99, 0), 0);
        Due.is("torn()", x.torn(), 0);
        Due.is("read(0, 1, 0, 0)", x.read(0, 1, 0, 0), 0);
        Due.is("torn(): it was taken as of another lane", x.torn(), 3);
    }

    private static void tornIsOfTheLatest() {
        VowTerrace x = three();
        x.read(0, 0, 0, 1);
        x.keep(0);
        x.sheet(0, 0, 4);
        x.back(0);
        x.text();
        Due.is("torn()", x.torn(), 1);
        x.read(0, 0, 0, 0);
        Due.is("torn()", x.torn(), 0);
    }

    private static void count() {
        VowTerrace x = three();
        x.vows(0, 1, 9, 0);
        x.fund(0, 99);
        x.fund(2, 50);
        Due.is("count(6)", x.count(6), 2);
        Due.is("count(1)", x.count(1), 158);
        Due.is("count(2)", x.count(2), 1);
        Due.is("go(1)", x.go(1), 1);
        x.drop(0, 0);
        x.vows(0, 0, 0, 1);
        Due.is("go(1)", x.go(1), 1);
        Due.is("count(0)", x.count(0), 2);
        Due.is("count(1)", x.count(1), 155);
        x.vows(1, 1, 9, 0);
        Due.is("count(6)", x.count(6), 1);
        x.drop(0, 0);
        x.can(0, 0, true);
        x.vows(1, 1, 0, 0);
        Due.is("go(1)", x.go(1), 1);
        Due.is("count(0): also deed 0 of house 0", x.count(0), 3);
        x.keep(1);
        Due.is("count(3)", x.count(3), 1);
        x.feed(65);
        Due.is("count(4)", x.count(4), 1);
        x.sheet(1, 0, 5);
        Due.is("count(5)", x.count(5), NONE);
        x.lawyer(0, true);
        Due.is("count(2)", x.count(2), 2);
        for (int wrong : new int[] {-1, 7, LEAST, MOST}) {
            Due.is("count(" + wrong + ")", x.count(wrong), BAD);
        }
    }
}
