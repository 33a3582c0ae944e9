/** A DAY, and promises 19 to 21: go, ahead, rest. */
public final class DaysTest {
    private static final int BAD = VowTerrace.BAD, FULL = VowTerrace.FULL, NONE = VowTerrace.NONE;

    public static void main(String[] args) {
        whereKindsFall();
        ringOfTwo();
        lawyersStrike();
        deepVowsWalk();
        theTenth();
        moneyAndSkill();
        threats();
        doneAtMost();
        endOfDays();
        ahead();
        rest();
        Due.finish("DaysTest");
    }

    /** DEEP 9, so that where it fell is seen by the VOWS there are then. */
    private static void falls(String shape, int from, int kind, int... houses) {
        VowTerrace x = Due.told(shape + "deed 0;");
        x.vows(from, kind, 9, 0);
        String call = shape + " kind " + kind + " from " + from;
        Due.is(call + ": go(1)", x.go(1), 0);
        Due.is(call + ": rule(3)", x.rule(3), houses.length);
        for (int i = 0; i < houses.length; i++) {
            Due.is(call + ": vow(i, 0)", x.vow(i, 0), houses[i]);
            Due.is(call + ": vow(i, 1)", x.vow(i, 1), kind);
            Due.is(call + ": vow(i, 2)", x.vow(i, 2), 9);
        }
        Due.is(call + ": rule(6)", x.rule(6), (kind == 3 ? 2 : 1) - houses.length);
    }

    private static void whereKindsFall() {
        falls("row 4;", 2, 0, 3);
        falls("row 4;", 3, 0);
        falls("row 4;", 1, 1, 0);
        falls("row 4;", 0, 1);
        falls("row 4;", 1, 2, 3);
        falls("row 4;", 2, 2);
        falls("row 4;", 3, 2);
        falls("row 4;", 1, 3, 0, 2);
        falls("row 4;", 0, 3, 1);
        falls("row 4;", 3, 3, 2);
        falls("row 4;", 2, 4, 3);
        falls("ring 4;", 3, 0, 0);
        falls("ring 4;", 0, 1, 3);
        falls("ring 4;", 2, 2, 0);
        falls("ring 4;", 3, 2, 1);
        falls("ring 4;", 0, 3, 3, 1);
        falls("ring 4;", 3, 3, 2, 0);
        falls("ring 4;", 3, 4, 0);
    }

    private static void ringOfTwo() {
        falls("ring 2;", 1, 2, 1);
        falls("ring 2;", 0, 3, 1, 1);
        falls("row 2;", 0, 2);
        VowTerrace x = Due.told("ring 2;deed 3;house 1 5 0;vow 0 joint 0 0;");
        Due.is("go(1)", x.go(1), 1);
        Due.is("rule(8)", x.rule(8), 1);
        Due.is("house(1, 0)", x.house(1, 0), 2);
    }

    private static void lawyersStrike() {
        VowTerrace x = Due.told("row 3;deed 0;house 1 0 0;lawyer 1;vow 0 plain 0 0;vow 2 left 9 0;vow 0 threat 0 0;vow 1 joint 0 0;");
        Due.is("go(1)", x.go(1), 0);
        Due.is("rule(7)", x.rule(7), 3);
        Due.is("rule(8): who vows is not struck", x.rule(8), 2);
        Due.is("rule(3)", x.rule(3), 0);
        Due.is("rule(6)", x.rule(6), 0);
        Due.is("rule(5)", x.rule(5), 1);
    }

    private static void deepVowsWalk() {
        VowTerrace x = Due.told("row 5;deed 2;house 3 9 0;vow 0 plain 2 0;vow 4 left 3 0;vow 0 drunk 9 0;");
        Due.is("go(0)", x.go(0), 0);
        Due.is("rule(5)", x.rule(5), 0);
        Due.is("go(2)", x.go(2), 0);
        int[][] due = {{2, 0, 0, 0}, {2, 1, 1, 0}, {4, 2, 9, 0}};
        for (int i = 0; i < due.length; i++) {
            for (int what = 0; what < 4; what++) {
                Due.is("vow(" + i + ", " + what + ")", x.vow(i, what), due[i][what]);
            }
        }
        Due.is("go(1)", x.go(1), 1);
        Due.is("house(3, 10)", x.house(3, 10), 1);
        Due.is("house(3, 0)", x.house(3, 0), 7);
        Due.is("rule(6)", x.rule(6), 1);
        Due.is("rule(3)", x.rule(3), 1);
        Due.is("vow(0, 2)", x.vow(0, 2), 0);
        Due.is("go(1)", x.go(1), 0);
        Due.is("rule(8)", x.rule(8), 1);
        Due.is("rule(5)", x.rule(5), 4);
    }

    private static void theTenth() {
        VowTerrace x = Due.told("ring 5;deed 0;deed 0;");
        for (int i = 0; i < 6; i++) {
            x.vows(i % 5, 3, 1, i % 2);
        }
        Due.is("go(1)", x.go(1), 0);
        Due.is("rule(3)", x.rule(3), 10);
        Due.is("rule(6)", x.rule(6), 2);
        Due.is("vow(9, 0): the right one of vow 4", x.vow(9, 0), 0);
        Due.is("vow(8, 0): its left one", x.vow(8, 0), 3);
        Due.is("go(1)", x.go(1), 0);
        Due.is("rule(8)", x.rule(8), 20);
        // a deed of the last one is done though the tenth stands already
        VowTerrace y = Due.told("ring 3;deed 0;house 1 0 0;");
        for (int i = 0; i < 9; i++) {
            y.vows(0, 3, 9, 0);
        }
        y.vows(0, 0, 0, 0);
        Due.is("go(1)", y.go(1), 1);
        Due.is("rule(6)", y.rule(6), 8);
    }

    private static void moneyAndSkill() {
        VowTerrace x = Due.told("row 2;deed 4;deed 0;house 1 8 0;vow 0 plain 0 0;vow 0 plain 0 1;vow 0 plain 0 0;vow 0 plain 0 0;");
        Due.is("go(1)", x.go(1), 2);
        Due.is("rule(8): one can not, one has no money", x.rule(8), 2);
        Due.is("house(1, 0)", x.house(1, 0), 0);
        Due.is("house(1, 10)", x.house(1, 10), 2);
        Due.is("house(1, 11)", x.house(1, 11), 0);
        x.can(1, 1, true);
        x.vows(0, 0, 0, 1);
        Due.is("go(1): for nothing", x.go(1), 1);
        Due.is("house(1, 11)", x.house(1, 11), 1);
    }

    private static void threats() {
        VowTerrace x = Due.told("row 2;deed 1;house 1 9 0;vow 0 plain 0 0;vow 0 threat 0 0;vow 0 threat 0 0;vow 0 plain 0 0;");
        Due.is("go(1)", x.go(1), 2);
        Due.is("house(1, 10)", x.house(1, 10), 1);
        Due.is("house(1, 0)", x.house(1, 0), 7);
        x.can(1, 0, false);
        x.vows(0, 4, 1, 0);
        x.vows(0, 4, 0, 0);
        Due.is("go(1)", x.go(1), 0);
        Due.is("house(1, 10): whether it can or not", x.house(1, 10), 0);
        Due.is("rule(8)", x.rule(8), 0);
        Due.is("vow(0, 1)", x.vow(0, 1), 4);
    }

    private static void doneAtMost() {
        VowTerrace x = Due.told("ring 2;deed 0;house 1 0 0;");
        x.sheet(0, 0, 40);
        for (int i = 0; i < 9; i++) {
            x.read(0, 0, 0, 10);
            Due.is("go(1)", x.go(1), 10);
        }
        x.read(0, 0, 0, 9);
        Due.is("go(1)", x.go(1), 9);
        Due.is("house(1, 10)", x.house(1, 10), 99);
        x.read(0, 0, 0, 2);
        Due.is("go(1) when 99 are", x.go(1), 2);
        Due.is("house(1, 10)", x.house(1, 10), 99);
        Due.is("count(0)", x.count(0), 99);
        x.vows(0, 4, 0, 0);
        x.go(1);
        Due.is("house(1, 10)", x.house(1, 10), 98);
    }

    private static void endOfDays() {
        VowTerrace x = new VowTerrace();
        Due.is("go(-1)", x.go(-1), BAD);
        Due.is("go(61)", x.go(61), BAD);
        for (int i = 0; i < 16; i++) {
            Due.is("go(60)", x.go(60), 0);
        }
        Due.is("rule(5)", x.rule(5), 960);
        Due.is("go(40)", x.go(40), FULL);
        Due.is("go(61)", x.go(61), BAD);
        Due.is("rule(5)", x.rule(5), 960);
        Due.is("go(39)", x.go(39), 0);
        Due.is("rule(5)", x.rule(5), 999);
        Due.is("go(1)", x.go(1), FULL);
        Due.is("go(0)", x.go(0), 0);
    }

    private static void ahead() {
        VowTerrace x = Due.told("row 4;deed 1;house 2 9 0;vow 1 plain 0 0;vow 0 plain 1 0;vow 3 left 0 0;");
        String before = State.of(x);
        int[] due = {0, 2, 3, 3};
        for (int n = 0; n < due.length; n++) {
            Due.is("ahead(2, 0, " + n + ")", x.ahead(2, 0, n), due[n]);
        }
        Due.is("ahead(2, 0, 60)", x.ahead(2, 0, 60), 3);
        Due.is("nothing changed", State.of(x).equals(before) ? 1 : 0, 1);
        Due.is("go(1)", x.go(1), 2);
        Due.is("ahead(2, 0, 0): done already", x.ahead(2, 0, 0), 2);
        int[][] wrong = {{4, 0, 1}, {-1, 0, 1}, {0, 1, 1}, {0, -1, 1}, {0, 0, -1}, {0, 0, 61}};
        for (int[] w : wrong) {
            Due.is("ahead wrong", x.ahead(w[0], w[1], w[2]), BAD);
        }
        for (int i = 0; i < 16; i++) {
            x.go(60);
        }
        Due.is("ahead(2, 0, 60) near the end of days", x.ahead(2, 0, 60), 3);
    }

    private static void rest() {
        VowTerrace x = Due.told("ring 4;deed 1;");
        Due.is("rest()", x.rest(), 0);
        x.vows(0, 0, 0, 0);
        Due.is("rest()", x.rest(), 1);
        x.vows(0, 3, 3, 0);
        Due.is("rest()", x.rest(), 4);
        String before = State.of(x);
        x.vows(0, 2, 9, 0);
        Due.is("rest()", x.rest(), NONE);
        x.drop(0, 2);
        Due.is("nothing changed", State.of(x).equals(before) ? 1 : 0, 1);
        VowTerrace row = Due.told("row 7;deed 1;vow 0 plain 9 0;");
        Due.is("rest()", row.rest(), 7);
    }
}
