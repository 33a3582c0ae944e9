/** Promises 28 to 30: mean, luck, drift. */
public final class HabitTest {
    private static final int BAD = VowTerrace.BAD;

    public static void main(String[] args) {
        noHabits();
        mean();
        luck();
        ringOfTwo();
        drift();
        driftWithVows();
        Due.finish("HabitTest");
    }

    private static void fraction(String call, long part, long whole, long duePart, long dueWhole) {
        Due.is(call + " numerator", part, duePart);
        Due.is(call + " denominator", whole, dueWhole);
    }

    private static void mean(VowTerrace x, int h, long part, long whole) {
        fraction("mean(" + h + ")", x.mean(h, 0), x.mean(h, 1), part, whole);
    }

    private static void luck(VowTerrace x, int h, long part, long whole) {
        fraction("luck(" + h + ")", x.luck(h, 0), x.luck(h, 1), part, whole);
    }

    private static void noHabits() {
        VowTerrace x = new VowTerrace();
        mean(x, 0, 0, 1);
        luck(x, 0, 1, 1);
        int[][] wrong = {{3, 0}, {-1, 0}, {0, 2}, {0, -1}};
        for (int[] w : wrong) {
            Due.is("mean wrong", x.mean(w[0], w[1]), BAD);
            Due.is("luck wrong", x.luck(w[0], w[1]), BAD);
        }
    }

    private static VowTerrace four() {
        return Due.told("row 4;deed 3;deed 4;house 2 5 0;habit 0 drunk 1 5;habit 1 plain 0 2;habit 3 joint 0 10;habit 2 threat 1 9;");
    }

    private static void mean() {
        VowTerrace x = four();
        // on 2: 4 by 5 tenths, 3 by 2 tenths, 3 always
        mean(x, 2, 28, 5);
        // on 3: a threat alone
        mean(x, 3, 0, 1);
        mean(x, 0, 0, 1);
        x.vows(1, 0, 0, 1);
        mean(x, 2, 28, 5);
        x.lawyer(2, true);
        mean(x, 2, 0, 1);
        x.lawyer(2, false);
        x.lawyer(0, true);
        mean(x, 2, 28, 5);
    }

    private static void luck() {
        VowTerrace x = four();
        // deed 1 can not be done (5 tenths), and not deed 0 twice (2 tenths)
        luck(x, 2, 2, 5);
        x.fund(2, 6);
        luck(x, 2, 1, 2);
        x.can(2, 1, true);
        // 3 and 4, 3 and 3 and 4 are above 6: 8 by 10 without vow 0 or with it none
        luck(x, 2, 1, 2);
        x.fund(2, 7);
        // all but the three together
        luck(x, 2, 9, 10);
        x.fund(2, 10);
        luck(x, 2, 1, 1);
        x.fund(2, 2);
        luck(x, 2, 0, 1);
        luck(x, 3, 1, 1);
        x.lawyer(2, true);
        luck(x, 2, 1, 1);
    }

    private static void ringOfTwo() {
        VowTerrace x = Due.told("ring 2;deed 3;house 1 5 0;habit 0 joint 0 5;habit 1 drunk 0 10;");
        mean(x, 1, 6, 1);
        luck(x, 1, 1, 2);
        x.fund(1, 2);
        luck(x, 1, 0, 1);
        x.fund(1, 8);
        luck(x, 1, 1, 2);
        x.fund(1, 9);
        luck(x, 1, 1, 1);
    }

    /** Which HOUSE vows ahead of each DAY, by the words of the document. */
    private static int[] drawn(int seed, int n, int houses) {
        int[] all = new int[n];
        long state = seed;
        for (int i = 0; i < n; i++) {
            state = (state * 1103515245L + 12345L) & 0xffffffffL;
            all[i] = (int) (state % (1L << 31) / (1L << 16) % houses);
        }
        return all;
    }

    private static void drift() {
        VowTerrace x = Due.told("ring 3;deed 1;deed 0;house 1 99 0;habit 0 plain 0 1;habit 1 plain 0 1;");
        for (int seed : new int[] {0, 1, -1, 77, Integer.MIN_VALUE, Integer.MAX_VALUE}) {
            int done = 0;
            int failed = 0;
            for (int h : drawn(seed, 60, 3)) {
                done += h == 0 ? 1 : 0;
                failed += h == 1 ? 1 : 0;
            }
            Due.is("drift(" + seed + ", 60, 0)", x.drift(seed, 60, 0), done);
            Due.is("drift(" + seed + ", 60, 1)", x.drift(seed, 60, 1), failed);
        }
        // 1103527590 has 16838 in bits 16 to 30: house 2, who has no habit
        Due.is("drift(1, 1, 0)", x.drift(1, 1, 0), 0);
        x.habit(2, 2, 0, 1);
        Due.is("drift(1, 1, 0): drunk falls on 1", x.drift(1, 1, 0), 1);
        Due.is("house(1, 0): nothing changed", x.house(1, 0), 99);
        Due.is("rule(5)", x.rule(5), 0);
        int[][] wrong = {{0, 0}, {61, 0}, {-1, 0}, {1, 2}, {1, -1}};
        for (int[] w : wrong) {
            Due.is("drift wrong", x.drift(1, w[0], w[1]), BAD);
        }
    }

    private static void driftWithVows() {
        VowTerrace x = Due.told("ring 2;deed 0;house 0 0 0;house 1 0 0;habit 0 plain 0 5;habit 1 plain 0 5;");
        Due.is("drift(5, 9, 0)", x.drift(5, 9, 0), 9);
        for (int i = 0; i < 9; i++) {
            x.vows(0, 0, 9, 0);
        }
        x.vows(0, 0, 0, 0);
        // ten are there on the first day, then nine and the one by habit
        Due.is("drift(5, 9, 0)", x.drift(5, 9, 0), 9);
        x.drop(0, 9);
        x.vows(0, 0, 9, 0);
        Due.is("drift(5, 9, 0): no room", x.drift(5, 9, 0), 0);
        x.drop(0, 0);
        x.vows(0, 0, 0, 0);
        x.vows(0, 0, 1, 0);
        Due.is("drift(5, 9, 0): those that are there fall too", x.drift(5, 9, 0), 11);
        x.can(0, 0, false);
        x.can(1, 0, false);
        x.go(2);
        Due.is("rule(8)", x.rule(8), 2);
        Due.is("drift(5, 9, 1): in these days alone", x.drift(5, 9, 1), 9);
        Due.is("rule(8)", x.rule(8), 2);
    }
}
