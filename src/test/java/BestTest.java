/** Promise 27: best. */
public final class BestTest {
    private static final int BAD = VowTerrace.BAD, NONE = VowTerrace.NONE;

    public static void main(String[] args) {
        VowTerrace x = Due.told("row 4;deed 2;house 0 9 0;house 3 4 0;vow 1 plain 0 0;vow 1 plain 0 0;vow 1 plain 0 0;vow 0 plain 1 0;");
        String before = State.of(x);
        Due.is("best(1, 0): who has most for three", x.best(1, 0), 2);
        Due.is("best(1, 1)", x.best(1, 1), 3);
        Due.is("best(2, 1)", x.best(2, 1), 4);
        Due.is("best(20, 0)", x.best(20, 0), 2);
        Due.is("nothing changed", State.of(x).equals(before) ? 1 : 0, 1);
        int[][] wrong = {{0, 0}, {21, 0}, {-1, 0}, {1, -1}, {1, 2}};
        for (int[] w : wrong) {
            Due.is("best(" + w[0] + ", " + w[1] + ")", x.best(w[0], w[1]), BAD);
        }
        ties();
        noneBetter();
        Due.finish("BestTest");
    }

    private static void ties() {
        VowTerrace x = Due.told("ring 4;deed 2;house 3 9 0;house 1 9 0;vow 1 plain 0 0;");
        Due.is("best(1, 0): of several the least", x.best(1, 0), 12);
        Due.is("best(1, 1)", x.best(1, 1), 1);
        x.drop(0, 0);
        x.vows(1, 0, 1, 0);
        x.move(3, 0);
        Due.is("best(1, 0): not yet", x.best(1, 0), NONE);
        Due.is("best(2, 0)", x.best(2, 0), 3);
    }

    private static void noneBetter() {
        VowTerrace x = Due.told("ring 4;deed 2;house 1 9 0;vow 0 plain 0 0;");
        Due.is("best(1, 0)", x.best(1, 0), NONE);
        Due.is("best(1, 1)", x.best(1, 1), NONE);
        Due.is("best(1, 1) of a new object", new VowTerrace().best(1, 1), NONE);
    }
}
