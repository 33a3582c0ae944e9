/** Promises 6 to 18: what is asked of the terrace, and what is changed in it. */
public final class ChangeTest {
    private static final int BAD = VowTerrace.BAD, FULL = VowTerrace.FULL;
    private static final int LEAST = Integer.MIN_VALUE, MOST = Integer.MAX_VALUE;

    public static void main(String[] args) {
        asked();
        fund();
        can();
        lawyer();
        habit();
        vows();
        wish();
        drop();
        move();
        Due.finish("ChangeTest");
    }

    private static VowTerrace four() {
        return Due.told("row 4;deed 3;deed 5;house 1 10 0 1;house 2 4 1;lawyer 3;vow 0 plain 2 1;want 1 0;");
    }

    private static void asked() {
        VowTerrace x = four();
        int[] rules = {4, 0, 2, 1, 1, 0, 0, 0, 0};
        for (int what = 0; what < rules.length; what++) {
            Due.is("rule(" + what + ")", x.rule(what), rules[what]);
        }
        for (int wrong : new int[] {-1, LEAST, MOST}) {
            Due.is("rule", x.rule(wrong), BAD);
            Due.is("cost", x.cost(wrong), BAD);
            Due.is("house h", x.house(wrong, 0), BAD);
            Due.is("house what", x.house(0, wrong), BAD);
            Due.is("vow i", x.vow(wrong, 0), BAD);
            Due.is("vow what", x.vow(0, wrong), BAD);
            Due.is("want i", x.want(wrong, 0), BAD);
            Due.is("want what", x.want(0, wrong), BAD);
        }
        Due.is("rule(9)", x.rule(9), BAD);
        Due.is("cost(1)", x.cost(1), 5);
        Due.is("cost(2)", x.cost(2), BAD);
        Due.is("house(4, 0)", x.house(4, 0), BAD);
        Due.is("house(3, 2)", x.house(3, 2), 1);
        for (int what = 6; what < 10; what++) {
            Due.is("house(0, " + what + ")", x.house(0, what), BAD);
        }
        Due.is("house(0, 11)", x.house(0, 11), 0);
        Due.is("house(0, 12)", x.house(0, 12), BAD);
        Due.is("vow(0, 2)", x.vow(0, 2), 2);
        Due.is("vow(0, 4)", x.vow(0, 4), BAD);
        Due.is("vow(1, 0)", x.vow(1, 0), BAD);
        Due.is("want(0, 0)", x.want(0, 0), 1);
        Due.is("want(0, 2)", x.want(0, 2), BAD);
        Due.is("want(1, 0)", x.want(1, 0), BAD);
    }

    private static void fund() {
        VowTerrace x = four();
        Due.is("fund(1, 99)", x.fund(1, 99), 10);
        Due.is("fund(1, 100)", x.fund(1, 100), BAD);
        Due.is("fund(1, -1)", x.fund(1, -1), BAD);
        Due.is("fund(4, 1)", x.fund(4, 1), BAD);
        Due.is("fund(-1, 1)", x.fund(-1, 1), BAD);
        Due.is("fund(1, 0)", x.fund(1, 0), 99);
        Due.is("house(1, 0)", x.house(1, 0), 0);
    }

    private static void can() {
        VowTerrace x = four();
        Due.is("can(1, 1, true)", x.can(1, 1, true), 1);
        Due.is("can(1, 0, false)", x.can(1, 0, false), 1);
        Due.is("can(1, 0, false)", x.can(1, 0, false), 0);
        Due.is("house(1, 1)", x.house(1, 1), 2);
        Due.is("can(0, 0, true)", x.can(0, 0, true), 0);
        Due.is("house(0, 1)", x.house(0, 1), 1);
        Due.is("can(4, 0, true)", x.can(4, 0, true), BAD);
        Due.is("can(0, 2, true)", x.can(0, 2, true), BAD);
        Due.is("can(-1, 0, true)", x.can(-1, 0, true), BAD);
        Due.is("can(0, -1, true)", x.can(0, -1, true), BAD);
        Due.is("house(0, 1)", x.house(0, 1), 1);
    }

    private static void lawyer() {
        VowTerrace x = four();
        Due.is("lawyer(3, true)", x.lawyer(3, true), 1);
        Due.is("lawyer(3, false)", x.lawyer(3, false), 1);
        Due.is("lawyer(3, false)", x.lawyer(3, false), 0);
        Due.is("lawyer(0, true)", x.lawyer(0, true), 0);
        Due.is("house(0, 2)", x.house(0, 2), 1);
        Due.is("house(3, 2)", x.house(3, 2), 0);
        Due.is("lawyer(4, true)", x.lawyer(4, true), BAD);
        Due.is("lawyer(-1, true)", x.lawyer(-1, true), BAD);
        Due.is("lawyer(32, true)", x.lawyer(32, true), BAD);
    }

    private static void habit() {
        VowTerrace x = four();
        Due.is("habit(2, 4, 1, 10)", x.habit(2, 4, 1, 10), 0);
        Due.is("habit(2, 3, 0, 0)", x.habit(2, 3, 0, 0), 10);
        Due.is("house(2, 3)", x.house(2, 3), 3);
        Due.is("house(2, 4)", x.house(2, 4), 0);
        Due.is("house(2, 5)", x.house(2, 5), 0);
        int[][] wrong = {{4, 0, 0, 1}, {-1, 0, 0, 1}, {0, 5, 0, 1}, {0, -1, 0, 1}, {0, 0, 2, 1}, {0, 0, -1, 1}, {0, 0, 0, 11}, {0, 0, 0, -1}};
        for (int[] w : wrong) {
            Due.is("habit wrong", x.habit(w[0], w[1], w[2], w[3]), BAD);
        }
        Due.is("house(0, 5)", x.house(0, 5), 0);
    }

    private static void vows() {
        VowTerrace x = four();
        int[][] wrong = {{4, 0, 0, 0}, {-1, 0, 0, 0}, {0, 5, 0, 0}, {0, -1, 0, 0}, {0, 0, 4, 0}, {0, 0, 8, 0}, {0, 0, 10, 0}, {0, 0, -1, 0}, {0, 0, 0, 2}, {0, 0, 0, -1}};
        for (int[] w : wrong) {
            Due.is("vows wrong", x.vows(w[0], w[1], w[2], w[3]), BAD);
        }
        Due.is("vows(3, 4, 9, 1)", x.vows(3, 4, 9, 1), 2);
        Due.is("vows(3, 4, 3, 1)", x.vows(3, 4, 3, 1), 3);
        for (int i = 4; i <= 10; i++) {
            Due.is("vows(0, 0, 0, 0)", x.vows(0, 0, 0, 0), i);
        }
        Due.is("vows when full", x.vows(0, 0, 0, 0), FULL);
        Due.is("vows wrong when full", x.vows(0, 0, 5, 0), BAD);
        Due.is("rule(3)", x.rule(3), 10);
        Due.is("vow(1, 2)", x.vow(1, 2), 9);
    }

    private static void wish() {
        VowTerrace x = four();
        Due.is("wish(4, 0)", x.wish(4, 0), BAD);
        Due.is("wish(0, 2)", x.wish(0, 2), BAD);
        Due.is("wish(-1, 0)", x.wish(-1, 0), BAD);
        Due.is("wish(0, -1)", x.wish(0, -1), BAD);
        for (int i = 2; i <= 4; i++) {
            Due.is("wish(3, 1)", x.wish(3, 1), i);
        }
        Due.is("wish when full", x.wish(3, 1), FULL);
        Due.is("wish wrong when full", x.wish(3, 2), BAD);
        Due.is("want(3, 0)", x.want(3, 0), 3);
        Due.is("want(3, 1)", x.want(3, 1), 1);
    }

    private static void drop() {
        VowTerrace x = four();
        x.vows(1, 1, 1, 0);
        x.vows(2, 2, 2, 0);
        Due.is("drop(0, 4)", x.drop(0, 4), BAD);
        Due.is("drop(0, -1)", x.drop(0, -1), BAD);
        Due.is("drop(2, 0)", x.drop(2, 0), BAD);
        Due.is("drop(-1, 0)", x.drop(-1, 0), BAD);
        Due.is("drop(0, 3)", x.drop(0, 3), 3);
        Due.is("drop(0, 2)", x.drop(0, 2), 3);
        Due.is("rule(3)", x.rule(3), 2);
        Due.is("vow(1, 1)", x.vow(1, 1), 1);
        Due.is("vow(2, 1)", x.vow(2, 1), BAD);
        Due.is("rule(4)", x.rule(4), 1);
        Due.is("drop(1, 2)", x.drop(1, 2), BAD);
        Due.is("drop(1, 0)", x.drop(1, 0), 1);
        Due.is("drop(1, 0)", x.drop(1, 0), 0);
        Due.is("rule(4)", x.rule(4), 0);
        Due.is("rule(3)", x.rule(3), 2);
    }

    private static void move() {
        VowTerrace x = four();
        x.habit(1, 2, 1, 7);
        x.lawyer(1, true);
        Due.is("move(1, 1)", x.move(1, 1), BAD);
        Due.is("move(4, 1)", x.move(4, 1), BAD);
        Due.is("move(1, 4)", x.move(1, 4), BAD);
        Due.is("move(-1, 1)", x.move(-1, 1), BAD);
        Due.is("move(1, 2)", x.move(1, 2), 1);
        Due.is("house(1, 0)", x.house(1, 0), 4);
        Due.is("house(1, 1)", x.house(1, 1), 2);
        Due.is("house(2, 0)", x.house(2, 0), 10);
        Due.is("house(2, 1)", x.house(2, 1), 3);
        Due.is("house(1, 2): the lawyer stays", x.house(1, 2), 1);
        Due.is("house(1, 5): the habit stays", x.house(1, 5), 7);
        Due.is("move(0, 2)", x.move(0, 2), 2);
        Due.is("move(0, 3)", x.move(0, 3), 0);
    }
}
