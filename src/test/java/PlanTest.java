/** Promises 22 to 24: plan, who, ways. */
public final class PlanTest {
    private static final int BAD = VowTerrace.BAD, NONE = VowTerrace.NONE;

    public static void main(String[] args) {
        who();
        ways();
        planOfNoneAndOne();
        planOfSeveral();
        planFirstSet();
        planByNone();
        Due.finish("PlanTest");
    }

    private static void who() {
        VowTerrace x = Due.told("row 5;deed 9;deed 9;house 2 0 0;lawyer 1;");
        // 3 by left, joint; 1 by plain, joint though a lawyer lives there; 0 by drunk
        Due.is("who(2, 0, 1)", x.who(2, 0, 1), 1 + 2 + 8);
        // 4 by left, 2 by joint over 3, 0 by none: plain is struck
        Due.is("who(2, 0, 2)", x.who(2, 0, 2), 4 + 16);
        // joint: 3 to 4 to 3 to 2, 1 to 2 to 3 to 2
        Due.is("who(2, 0, 3)", x.who(2, 0, 3), 2 + 8);
        Due.is("who(2, 0, 4)", x.who(2, 0, 4), 4 + 16);
        Due.is("who(2, 1, 1): it can not", x.who(2, 1, 1), 0);
        Due.is("who(3, 0, 1): it can not", x.who(3, 0, 1), 0);
        Due.is("can(1, 0, true)", x.can(1, 0, true), 0);
        Due.is("who(1, 0, 1): struck", x.who(1, 0, 1), 0);
        int[][] wrong = {{5, 0, 1}, {-1, 0, 1}, {2, 2, 1}, {2, -1, 1}, {2, 0, 0}, {2, 0, 5}};
        for (int[] w : wrong) {
            Due.is("who wrong", x.who(w[0], w[1], w[2]), BAD);
        }
    }

    private static void ways() {
        VowTerrace x = Due.told("row 2;deed 9;deed 0;house 1 0 1;");
        // from 0: plain deep 0, joint deep 0, 2; from 1: joint deep 1, 3
        Due.is("ways(1, 1, 0)", x.ways(1, 1, 0), 5);
        Due.is("ways(1, 1, 1)", x.ways(1, 1, 1), 1);
        Due.is("ways(1, 0, 0)", x.ways(1, 0, 0), 0);
        Due.is("ways(1, 0, 1)", x.ways(1, 0, 1), NONE);
        // to 0: from 0 joint deep 1, 3; from 1 left deep 0, joint deep 0, 2
        x.can(0, 0, true);
        Due.is("ways(0, 0, 0)", x.ways(0, 0, 0), 5);
        Due.is("ways(0, 0, 1)", x.ways(0, 0, 1), 60 + 5);
        x.lawyer(1, true);
        Due.is("ways(0, 0, 0)", x.ways(0, 0, 0), 2);
        Due.is("ways(0, 0, 1)", x.ways(0, 0, 1), 100 + 20);
        int[][] wrong = {{2, 0, 0}, {-1, 0, 0}, {0, 2, 0}, {0, -1, 0}, {0, 0, -1}, {0, 0, 2}};
        for (int[] w : wrong) {
            Due.is("ways wrong", x.ways(w[0], w[1], w[2]), BAD);
        }
    }

    private static void planOfNoneAndOne() {
        VowTerrace x = Due.told("row 4;deed 9;house 1 0 0;house 3 0 0;");
        Due.is("plan(0)", x.plan(0), 0);
        Due.is("plan(10)", x.plan(10), NONE);
        x.wish(3, 0);
        Due.is("plan(0)", x.plan(0), 1);
        Due.is("plan(10): plain, deep 2", x.plan(10), 10);
        Due.is("plan(11)", x.plan(11), NONE);
        // joint from 0, deep 2, brings to 1 and to 3
        x.wish(1, 0);
        x.wish(1, 0);
        Due.is("plan(0)", x.plan(0), 1);
        Due.is("plan(10)", x.plan(10), 70);
        for (int wrong : new int[] {-1, 1, 9, Integer.MIN_VALUE}) {
            Due.is("plan(" + wrong + ")", x.plan(wrong), BAD);
        }
        Due.is("plan(most)", x.plan(Integer.MAX_VALUE), NONE);
    }

    private static void planOfSeveral() {
        VowTerrace x = Due.told("row 4;deed 9;deed 9;deed 9;house 1 0 0 1;house 2 0 2;house 3 0 0;want 2 2;want 1 1;want 3 0;want 1 0;");
        // one vow has one deed: three at least, and joint brings deed 0 to both
        Due.is("plan(0)", x.plan(0), 3);
        Due.is("plan(10): plain from 0, deep 0, deed 1", x.plan(10), 1);
        Due.is("plan(11): plain from 0, deep 1, deed 2", x.plan(11), 7);
        Due.is("plan(12): joint from 0, deep 2, deed 0", x.plan(12), 70);
        Due.is("plan(13)", x.plan(13), NONE);
        String before = State.of(x);
        x.plan(0);
        Due.is("nothing changed", State.of(x).equals(before) ? 1 : 0, 1);
    }

    private static void planFirstSet() {
        // odd and even houses: no one vow brings to both
        VowTerrace x = Due.told("row 4;deed 0;house 0 0 0;house 1 0 0;house 2 0 0;house 3 0 0;want 0 0;want 1 0;want 2 0;want 3 0;");
        Due.is("plan(0)", x.plan(0), 2);
        // joint from 0: deep 1 brings to 0, 2; deep 2 to 1, 3
        Due.is("plan(10)", x.plan(10), 65);
        Due.is("plan(11)", x.plan(11), 70);
        // a lawyer in 2: 0, 1, 3 are left; 2 can not be brought to
        x.lawyer(2, true);
        Due.is("plan(0)", x.plan(0), NONE);
        Due.is("plan(10)", x.plan(10), NONE);
        Due.is("plan(1)", x.plan(1), BAD);
        x.drop(1, 2);
        Due.is("plan(0)", x.plan(0), 2);
        Due.is("plan(10): plain from 0", x.plan(10), 0);
        Due.is("plan(11): joint from 0, deep 1", x.plan(11), 65);
    }

    private static void planByNone() {
        VowTerrace x = Due.told("row 3;deed 0;want 1 0;");
        Due.is("plan(0)", x.plan(0), NONE);
        Due.is("plan(10)", x.plan(10), NONE);
        x.can(1, 0, true);
        Due.is("plan(0)", x.plan(0), 1);
    }
}
