/** Promises 31 to 37 at their edges: IMAGES, SHEETS and the FAULTS that the machine finds. */
public final class SheetEdgeTest {
    private static final int BAD = VowTerrace.BAD, STATE = VowTerrace.STATE, NONE = VowTerrace.NONE;
    private static final int LEAST = Integer.MIN_VALUE, MOST = Integer.MAX_VALUE;
    private static final int NULL = 1, INDEX = 2, CAST = 3;

    public static void main(String[] args) {
        images();
        imagesHoldAll();
        imagesAndTexts();
        sizes();
        newCells();
        lowestBits();
        casts();
        indexes();
        notWhole();
        wholeAndRefused();
        none();
        torn();
        counts();
        Due.finish("SheetEdgeTest");
    }

    private static void images() {
        VowTerrace x = Due.told("row 2;deed 0;");
        for (int k : new int[] {LEAST, -1, 2, MOST}) {
            Due.is("keep(" + k + ")", x.keep(k), BAD);
            Due.is("back(" + k + ")", x.back(k), BAD);
        }
        Due.is("back(0)", x.back(0), STATE);
        Due.is("back(1)", x.back(1), STATE);
        Due.is("keep(1)", x.keep(1), 0);
        Due.is("count(3)", x.count(3), 1);
        Due.is("back(0)", x.back(0), STATE);
        Due.is("back(1)", x.back(1), 0);
        Due.is("keep(0)", x.keep(0), 0);
        Due.is("count(3)", x.count(3), 2);
        x.go(60);
        Due.is("keep(0)", x.keep(0), 1);
        Due.is("keep(0) again", x.keep(0), 1);
        Due.is("count(3)", x.count(3), 2);
        Due.is("back(1)", x.back(1), 0);
        Due.is("back(0)", x.back(0), 60);
        Due.is("back(0) again", x.back(0), 60);
        for (int i = 0; i < 15; i++) {
            x.go(60);
        }
        x.go(39);
        x.keep(1);
        Due.is("back(0)", x.back(0), 60);
        Due.is("back(1): DAY 999", x.back(1), 999);
        Due.is("go(1)", x.go(1), VowTerrace.FULL);
    }

    /** All that days and changes touch is as it was; what is DONE, LOST, STRUCK, FAILED too. */
    private static void imagesHoldAll() {
        VowTerrace x = Due.told("row 5;deed 1;deed 2;house 1 20 0 1;lawyer 2;vow 0 plain 0 0;vow 1 plain 0 0;vow 4 plain 0 0;vow 2 plain 0 0;vow 0 plain 2 1;");
        x.go(1);
        x.habit(4, 3, 1, 7);
        x.wish(4, 1);
        x.vows(3, 1, 9, 1);
        Due.is("rule(6)", x.rule(6), 1);
        Due.is("rule(7)", x.rule(7), 1);
        Due.is("rule(8)", x.rule(8), 1);
        x.keep(0);
        String kept = State.of(x);
        for (int h = 0; h < 5; h++) {
            x.fund(h, 90 + h);
            x.can(h, 0, h % 2 == 0);
            x.lawyer(h, h == 4);
            x.habit(h, 2, 0, 9);
        }
        x.drop(0, 0);
        for (int i = 0; i < 10; i++) {
            x.vows(i % 5, i % 4, i % 3, i % 2);
        }
        x.drop(1, 0);
        for (int i = 0; i < 4; i++) {
            x.wish(i, 0);
        }
        x.go(3);
        Due.is("all has changed", State.of(x).equals(kept) ? 1 : 0, 0);
        Due.is("back(0)", x.back(0), 1);
        Due.is("all is as it was", State.of(x).equals(kept) ? 1 : 0, 1);
    }

    /** A text that is taken takes the IMAGES away, one that is refused leaves them; THE TAPE, SHEETS are in none. */
    private static void imagesAndTexts() {
        VowTerrace x = Due.told("row 2;deed 0;");
        x.keep(0);
        x.sheet(0, 0, 3);
        Due.feed(x, "ring 7;lawyer 6;!");
        x.keep(1);
        Due.is("text()", x.text(), -26);
        Due.is("count(3)", x.count(3), 2);
        x.feed('x');
        x.sheet(0, 2, 5);
        Due.is("back(0)", x.back(0), 0);
        Due.is("count(4): THE TAPE stays", x.count(4), 1);
        Due.is("count(5): the SHEET stays", x.count(5), 5);
        Due.is("fault() stays", x.fault(), 1);
        x.end(0);
        Due.tell(x, "");
        Due.is("count(3)", x.count(3), 0);
        Due.is("back(0)", x.back(0), STATE);
        Due.is("back(1)", x.back(1), STATE);
        Due.is("keep(0)", x.keep(0), 0);
        Due.is("count(5)", x.count(5), 5);
    }

    private static void sizes() {
        for (int lane = 0; lane < 3; lane++) {
            VowTerrace x = new VowTerrace();
            for (int n = 0; n <= 40; n++) {
                Due.is("sheet(0, lane, n)", x.sheet(0, lane, n), 1);
                Due.is("count(5)", x.count(5), n);
                Due.is("lay(0, n, 0)", x.lay(0, n, 0), -12);
                Due.is("lay(0, n - 1, 0)", x.lay(0, n - 1, 0), n == 0 ? -12 : 1);
            }
            Due.is("sheet(0, lane, 41)", x.sheet(0, lane, 41), BAD);
            Due.is("sheet(0, lane, most)", x.sheet(0, lane, MOST), BAD);
            Due.is("sheet(0, lane, -1)", x.sheet(0, lane, -1), -14);
            Due.is("sheet(0, lane, least)", x.sheet(0, lane, LEAST), -14);
            Due.is("count(5): as it was", x.count(5), 40);
        }
        VowTerrace x = new VowTerrace();
        for (int k = 0; k < 4; k++) {
            Due.is("lay(k, 0, 0) of nothing", x.lay(k, 0, 0), -11);
            Due.is("sheet(k, 0, 1)", x.sheet(k, 0, 1), 1);
            Due.is("lay(k, 0, 0)", x.lay(k, 0, 0), 1);
        }
        Due.is("sheet(4, 0, 1)", x.sheet(4, 0, 1), BAD);
        Due.is("sheet(-1, 0, 1)", x.sheet(-1, 0, 1), BAD);
        Due.is("lay(4, 0, 0)", x.lay(4, 0, 0), BAD);
        Due.is("lay(-1, 0, 0)", x.lay(-1, 0, 0), BAD);
    }

    private static VowTerrace seven() {
        return Due.told("ring 7;deed 0;deed 1;deed 2;deed 3;deed 4;");
    }

    /** A new row has CELLS 0, of each lane, in each CELL, whatever was laid before. */
    private static void newCells() {
        for (int lane = 0; lane < 3; lane++) {
            VowTerrace x = seven();
            x.sheet(2, lane, 40);
            for (int i = 0; i < 40; i++) {
                x.lay(2, i, 1);
            }
            Due.is("read(2, lane, 0, 10)", x.read(2, lane, 0, 10), 10);
            for (int i = 0; i < 10; i++) {
                Due.is("vow(i, 0)", x.vow(i, 0), 1);
                Due.is("vow(i, 3)", x.vow(i, 3), 1);
            }
            x.drop(0, 0);
            x.sheet(2, lane, 40);
            Due.is("read(2, lane, 0, 10)", x.read(2, lane, 0, 10), 10);
            for (int i = 0; i < 10; i++) {
                for (int what = 0; what < 4; what++) {
                    Due.is("vow(i, what)", x.vow(i, what), 0);
                }
            }
        }
    }

    /** What a CELL holds, as the HOUSE of a VOW: 0 to 6, or refused. */
    private static void cell(int lane, int v, int due) {
        VowTerrace x = seven();
        x.sheet(3, lane, 4);
        Due.is("lay(3, 0, " + v + ")", x.lay(3, 0, v), 1);
        Due.is("read of lane " + lane + " " + v, x.read(3, lane, 0, 1), due < 0 ? -20 : 1);
        Due.is("vow(0, 0) of lane " + lane + " " + v, x.vow(0, 0), due < 0 ? BAD : due);
    }

    private static void lowestBits() {
        int[] many = {LEAST, LEAST + 6, -65536, -65530, -32768, -257, -256, -250, -249, -128, -1, 0, 1, 6, 7, 127, 128, 250, 255, 256, 257, 262, 263, 32767, 32768, 65535, 65536, 65542, 65543, 131072, 1 << 24, MOST};
        for (int v : many) {
            int inByte = v << 24 >> 24;
            int inShort = v << 16 >> 16;
            cell(0, v, 0 <= inByte && inByte <= 6 ? inByte : -1);
            cell(1, v, 0 <= inShort && inShort <= 6 ? inShort : -1);
            cell(2, v, 0 <= v && v <= 6 ? v : -1);
        }
        cell(0, 256 + 5, 5);
        cell(1, 256 + 5, -1);
        cell(1, 65536 + 5, 5);
        cell(2, 65536 + 5, -1);
        cell(0, LEAST + 5, 5);
        cell(1, LEAST + 5, 5);
        cell(2, LEAST + 5, -1);
        cell(0, 255, -1);
        cell(1, 65535, -1);
        cell(2, -1, -1);
    }

    private static void reads(VowTerrace x, int[] call, int came, int torn) {
        String told = "read(" + call[0] + ", " + call[1] + ", " + call[2] + ", " + call[3] + ")";
        Due.is(told, x.read(call[0], call[1], call[2], call[3]), came);
        Due.is("torn() behind " + told, x.torn(), torn);
    }

    /** A SHEET of each lane taken as of each lane; nothing is of every lane, but has no CELLS. */
    private static void casts() {
        for (int lane = 0; lane < 3; lane++) {
            for (int as = 0; as < 3; as++) {
                VowTerrace x = seven();
                x.sheet(1, lane, 4);
                reads(x, new int[] {1, as, 0, 1}, lane == as ? 1 : 0, lane == as ? 0 : CAST);
                Due.is("rule(3)", x.rule(3), lane == as ? 1 : 0);
                // the cast is made ahead of any CELL
                reads(x, new int[] {1, as, 99, 1}, 0, lane == as ? INDEX : CAST);
                x.sheet(1, lane, 0);
                reads(x, new int[] {1, as, 0, 1}, 0, lane == as ? INDEX : CAST);
                reads(x, new int[] {2, as, 0, 1}, 0, NULL);
                reads(x, new int[] {2, as, -1, 10}, 0, NULL);
            }
        }
        VowTerrace x = seven();
        x.sheet(0, 0, 4);
        for (int lane : new int[] {-1, 3, LEAST, MOST}) {
            Due.is("read(0, " + lane + ", 0, 1)", x.read(0, lane, 0, 1), BAD);
            Due.is("read(1, " + lane + ", 0, 1): of nothing", x.read(1, lane, 0, 1), BAD);
        }
    }

    private static void indexes() {
        VowTerrace x = seven();
        x.sheet(0, 2, 40);
        for (int f = -5; f <= 45; f++) {
            boolean whole = f >= 0 && f <= 36;
            reads(x, new int[] {0, 2, f, 1}, whole ? 1 : 0, whole ? 0 : INDEX);
            Due.is("rule(3)", x.drop(0, 0), whole ? 1 : 0);
            int came = f < 0 || f > 40 ? 0 : (40 - f) / 4;
            reads(x, new int[] {0, 2, f, 10}, came, came == 10 ? 0 : INDEX);
            Due.is("those that were whole ahead come", x.drop(0, 0), came);
        }
        // places that would go round the greatest number do not come to CELL 0
        for (int f : new int[] {LEAST, LEAST + 1, LEAST + 4, -40, -4, MOST, MOST - 3, MOST - 7, MOST - 35, MOST - 39, (1 << 30) + 1}) {
            reads(x, new int[] {0, 2, f, 10}, 0, INDEX);
            Due.is("rule(3)", x.rule(3), 0);
        }
    }

    /** A VOW of which a CELL is beyond the row does not come, and is not looked at. */
    private static void notWhole() {
        for (int cells = 0; cells <= 12; cells++) {
            VowTerrace x = seven();
            x.sheet(0, 1, cells);
            for (int i = cells / 4 * 4; i < cells; i++) {
                x.lay(0, i, 99);
            }
            reads(x, new int[] {0, 1, 0, 3}, cells / 4, cells == 12 ? 0 : INDEX);
            Due.is("rule(3)", x.rule(3), cells / 4);
        }
    }

    /** The i-th from 0, by each CELL; "in whichever way": BAD or FULL; "the first met". */
    private static void wholeAndRefused() {
        int[] tooGreat = {7, 5, 4, 5};
        for (int i = 0; i < 10; i++) {
            for (int cell = 0; cell < 4; cell++) {
                VowTerrace x = seven();
                x.sheet(0, 0, 40);
                x.lay(0, 4 * i + cell, tooGreat[cell]);
                Due.is("the " + i + "-th", x.read(0, 0, 0, 10), -20 - i);
                Due.is("then none came", x.rule(3), 0);
                Due.is("without it", x.read(0, 0, 0, i), i);
                x.drop(0, 0);
                x.lay(0, 4 * i + cell, tooGreat[cell] - 1);
                Due.is("the last that is taken", x.read(0, 0, 0, 10), 10);
                Due.is("vow(i, cell)", x.vow(i, cell), tooGreat[cell] - 1);
                x.drop(0, 0);
                x.lay(0, 4 * i + cell, -1);
                Due.is("below 0", x.read(0, 0, 0, 10), -20 - i);
            }
        }
        for (int there = 0; there <= 10; there++) {
            VowTerrace x = seven();
            x.sheet(0, 0, 40);
            x.read(0, 0, 0, there);
            Due.is("with " + there, x.read(0, 0, 0, 10 - there), 10 - there);
            x.drop(0, there);
            Due.is("one more than there is room for", x.read(0, 0, 0, 10), there == 0 ? 10 : -20 - (10 - there));
            Due.is("rule(3)", x.rule(3), there == 0 ? 10 : there);
        }
        // which is met first: the one that is refused, or the end of the row
        VowTerrace x = seven();
        x.sheet(0, 0, 11);
        x.lay(0, 5, 5);
        Due.is("refused ahead of the end", x.read(0, 0, 0, 3), -21);
        x.lay(0, 5, 0);
        x.lay(0, 9, 5);
        reads(x, new int[] {0, 0, 0, 3}, 2, INDEX);
        x.lay(0, 2, 9);
        reads(x, new int[] {0, 0, 0, 1}, 1, 0);
        Due.is("DEEP 9", x.vow(2, 2), 9);
    }

    /** n 0: no CELL is asked for; the lane is. */
    private static void none() {
        VowTerrace x = seven();
        reads(x, new int[] {0, 0, 0, 0}, 0, 0);
        reads(x, new int[] {0, 2, MOST, 0}, 0, 0);
        x.sheet(0, 0, 0);
        reads(x, new int[] {0, 0, -1, 0}, 0, 0);
        reads(x, new int[] {0, 1, 0, 0}, 0, CAST);
        Due.is("read(0, 0, 0, -1)", x.read(0, 0, 0, -1), BAD);
        Due.is("read(0, 0, 0, 11)", x.read(0, 0, 0, 11), BAD);
        Due.is("read(4, 0, 0, 0)", x.read(4, 0, 0, 0), BAD);
        Due.is("read(-1, 0, 0, 0)", x.read(-1, 0, 0, 0), BAD);
        Due.is("torn(): of the latest that came to an end", x.torn(), CAST);
        for (int i = 0; i < 10; i++) {
            x.vows(0, 0, 0, 0);
        }
        reads(x, new int[] {0, 0, 0, 0}, 0, 0);
    }

    private static void torn() {
        VowTerrace x = seven();
        Due.is("torn() ahead of any", x.torn(), 0);
        x.sheet(0, 0, 4);
        int[][] calls = {{1, 0, 0, 1}, {0, 0, 1, 1}, {0, 1, 0, 1}, {0, 0, 0, 1}};
        int[] due = {NULL, INDEX, CAST, 0};
        for (int i = 0; i < calls.length; i++) {
            reads(x, calls[i], i == 3 ? 1 : 0, due[i]);
            x.read(4, 0, 0, 1);
            Due.is("torn() behind BAD", x.torn(), due[i]);
            x.lay(0, 0, 7);
            Due.is("read(0, 0, 0, 1)", x.read(0, 0, 0, 1), -20);
            Due.is("torn() behind a refused one", x.torn(), due[i]);
            x.lay(0, 0, 0);
            x.lay(0, 9, 0);
            x.sheet(2, 0, -1);
            Due.is("torn() is of read() alone", x.torn(), due[i]);
        }
    }

    private static void counts() {
        VowTerrace x = seven();
        for (int what : new int[] {LEAST, -1, 7, 10, MOST}) {
            Due.is("count(" + what + ")", x.count(what), BAD);
        }
        Due.is("count(5) of nothing", x.count(5), NONE);
        for (int k = 1; k < 4; k++) {
            x.sheet(k, 0, 9);
        }
        Due.is("count(5) of SHEET 0 alone", x.count(5), NONE);
        x.sheet(0, 0, 0);
        Due.is("count(5) of no CELLS", x.count(5), 0);
        for (int h = 0; h < 7; h++) {
            x.fund(h, 99);
            for (int d = 0; d < 5; d++) {
                x.can(h, d, true);
            }
        }
        Due.is("count(1): all seven", x.count(1), 693);
        for (int h = 0; h < 7; h++) {
            for (int d = 0; d < 5; d++) {
                x.vows(h, 0, 0, d);
            }
            Due.is("go(1)", x.go(1), 5);
            Due.is("count(0)", x.count(0), 5 * h + 5);
            Due.is("count(1)", x.count(1), 693 - 10 * (h + 1));
        }
        for (int i = 0; i < 10; i++) {
            Due.is("count(6)", x.count(6), i);
            x.vows(0, 0, 9, 0);
        }
        Due.is("count(6)", x.count(6), 10);
        x.drop(0, 0);
        for (int deep = 0; deep <= 3; deep++) {
            x.vows(0, 0, deep, 0);
        }
        Due.is("count(6): of DEEP 9 alone", x.count(6), 0);
        Due.is("count(4)", x.count(4), 0);
    }
}
