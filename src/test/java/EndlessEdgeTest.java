/** ENDLESS and promises 25 to 27 at their edges: ever, stop, best. */
public final class EndlessEdgeTest {
    private static final int BAD = VowTerrace.BAD, NONE = VowTerrace.NONE;

    public static void main(String[] args) {
        noneOfShortOnes();
        rows();
        rings();
        byOrder();
        byItself();
        lawyersOfTheirOwn();
        stopNothing();
        stopRings();
        stopJoint();
        stopBesideThoseThere();
        bestMoreOften();
        bestOfSeveral();
        bestAtTheEdges();
        Due.finish("EndlessEdgeTest");
    }

    private static int ever(String shape, int h, int kind, int deep) {
        VowTerrace x = Due.told(shape + "deed 0;");
        x.vows(h, kind, deep, 0);
        return x.ever();
    }

    private static void noneOfShortOnes() {
        Due.is("ever() of a new one", new VowTerrace().ever(), 0);
        for (int kind = 0; kind < 5; kind++) {
            for (int deep = 0; deep <= 3; deep++) {
                Due.is("DEEP " + deep, ever("ring 2;", 0, kind, deep), 0);
            }
            Due.is("DEEP 9", ever("ring 2;", 0, kind, 9), 1);
        }
    }

    /** In a row all but joint come to THE SEA, however long the row. */
    private static void rows() {
        for (int houses = 2; houses <= 7; houses++) {
            for (int h = 0; h < houses; h++) {
                for (int kind = 0; kind < 5; kind++) {
                    Due.is("row " + houses + " from " + h + " by " + kind, ever("row " + houses + ";", h, kind, 9), kind == 3 ? 1 : 0);
                }
            }
        }
    }

    private static void rings() {
        for (int houses = 2; houses <= 7; houses++) {
            for (int kind = 0; kind < 5; kind++) {
                Due.is("ring " + houses + " by " + kind, ever("ring " + houses + ";", houses - 1, kind, 9), 1);
                for (int law = 0; law < houses; law++) {
                    // drunk in an even ring walks by each other one; joint goes to and fro where two are left
                    boolean by = kind == 2 && houses % 2 == 0 && law % 2 == 1;
                    boolean fro = kind == 3 && houses > 2;
                    String shape = "ring " + houses + ";lawyer " + law + ";";
                    Due.is(shape + " by " + kind, ever(shape, 0, kind, 9), by || fro ? 1 : 0);
                }
            }
        }
    }

    /** Ten VOWS are ten bits. */
    private static void byOrder() {
        VowTerrace x = Due.told("ring 3;deed 0;");
        for (int i = 0; i < 10; i++) {
            x.vows(0, 0, 9, 0);
            Due.is("ever()", x.ever(), (2 << i) - 1);
        }
        x.drop(0, 9);
        x.vows(0, 0, 3, 0);
        Due.is("ever()", x.ever(), 511);
        x.drop(0, 8);
        x.vows(0, 0, 3, 0);
        x.vows(0, 4, 9, 0);
        Due.is("ever()", x.ever(), 255 + 512);
    }

    /** However many there may be: others, and its own beyond the tenth, are no matter. */
    private static void byItself() {
        VowTerrace x = Due.told("ring 7;deed 0;");
        for (int i = 0; i < 9; i++) {
            x.vows(i % 7, 3, 9, 0);
        }
        x.vows(0, 0, 9, 0);
        Due.is("ever()", x.ever(), 1023);
        x.go(1);
        Due.is("vow(9, 1): the plain one is lost behind the tenth", x.vow(9, 1), 3);
        Due.is("ever()", x.ever(), 1023);
    }

    /** A LAWYER strikes what falls on the HOUSE, not what is there. */
    private static void lawyersOfTheirOwn() {
        VowTerrace x = Due.told("row 3;deed 0;lawyer 0;vow 0 joint 9 0;");
        Due.is("ever(): out of his house, then between 1 and 2", x.ever(), 1);
        x.lawyer(2, true);
        Due.is("ever(): 1 is between two lawyers", x.ever(), 0);
        Due.is("ever() in a ring of two", ever("ring 2;lawyer 0;", 0, 2, 9), 0);
        Due.is("ever() in a ring of two", ever("ring 2;lawyer 1;", 0, 2, 9), 1);
    }

    private static void stop(VowTerrace x, int fewest, int least) {
        Due.is("stop(0)", x.stop(0), fewest);
        Due.is("stop(1)", x.stop(1), least);
    }

    private static void stopNothing() {
        stop(new VowTerrace(), 0, 0);
        stop(Due.told("row 7;deed 0;vow 0 plain 9 0;"), 0, 0);
        stop(Due.told("ring 7;deed 0;vow 0 plain 3 0;"), 0, 0);
        for (int what : new int[] {-1, 2}) {
            Due.is("stop(" + what + ")", new VowTerrace().stop(what), BAD);
        }
    }

    private static void stopRings() {
        for (int houses = 2; houses <= 7; houses++) {
            for (int kind : new int[] {0, 1, 4}) {
                VowTerrace x = Due.told("ring " + houses + ";deed 0;");
                x.vows(houses - 1, kind, 9, 0);
                stop(x, 1, 1);
            }
        }
        VowTerrace two = Due.told("ring 2;deed 0;vow 1 drunk 9 0;");
        stop(two, 1, 2);
        two.vows(0, 2, 9, 0);
        stop(two, 2, 3);
        VowTerrace six = Due.told("ring 6;deed 0;vow 1 drunk 9 0;vow 0 drunk 9 0;");
        stop(six, 2, 3);
        six.drop(0, 1);
        stop(six, 1, 2);
    }

    private static void stopJoint() {
        // each HOUSE has one: of two neighbours one must be a LAWYER's, three of six, four of seven
        int[] least = {0, 0, 1, 3, 5, 11, 21, 43};
        for (int houses = 3; houses <= 7; houses++) {
            VowTerrace x = Due.told("ring " + houses + ";deed 0;");
            for (int h = 0; h < houses; h++) {
                x.vows(h, 3, 9, 0);
            }
            stop(x, (houses + 1) / 2, least[houses]);
        }
        // in a row of seven three are enough: 1, 3, 5
        VowTerrace row = Due.told("row 7;deed 0;");
        for (int h = 0; h < 7; h++) {
            row.vows(h, 3, 9, 0);
        }
        stop(row, 3, 2 + 8 + 32);
        // one alone is shut in by two at most
        stop(Due.told("ring 7;deed 0;vow 3 joint 9 0;"), 2, 4 + 16);
        stop(Due.told("row 7;deed 0;vow 0 joint 9 0;"), 1, 2);
        stop(Due.told("row 7;deed 0;vow 6 joint 9 0;"), 1, 32);
        stop(Due.told("row 2;deed 0;vow 0 joint 9 0;"), 1, 1);
    }

    /** LAWYERS more, in HOUSES without one. */
    private static void stopBesideThoseThere() {
        VowTerrace x = Due.told("ring 4;deed 0;lawyer 0;vow 1 drunk 9 0;");
        stop(x, 1, 2);
        x.lawyer(1, true);
        stop(x, 0, 0);
        for (int h = 0; h < 4; h++) {
            x.lawyer(h, true);
        }
        stop(x, 0, 0);
        x.lawyer(3, false);
        x.lawyer(1, false);
        stop(x, 1, 2);
        Due.is("nothing changed", x.count(2), 2);
    }

    private static void bestMoreOften() {
        VowTerrace x = Due.told("row 3;deed 2;house 0 1 0;house 1 2 0;vow 0 plain 0 0;");
        Due.is("as often is not more often", x.best(1, 0), NONE);
        Due.is("as often is not more often", x.best(1, 1), NONE);
        x.vows(0, 0, 0, 0);
        x.fund(2, 4);
        x.can(2, 0, true);
        Due.is("twice in place of once", x.best(1, 0), 12);
        Due.is("twice in place of once", x.best(1, 1), 2);
        x.fund(2, 3);
        Due.is("the money is not enough", x.best(1, 0), NONE);
        Due.is("nothing changed", x.house(1, 0), 2);
    }

    private static void bestOfSeveral() {
        VowTerrace x = Due.told("ring 7;deed 1;vow 5 plain 0 0;");
        for (int h = 0; h < 7; h++) {
            x.fund(h, 1);
            x.can(h, 0, h != 6);
        }
        Due.is("the least pair", x.best(1, 0), 6);
        x.can(0, 0, false);
        Due.is("the least pair", x.best(1, 0), 16);
        for (int h = 1; h < 5; h++) {
            x.can(h, 0, false);
        }
        Due.is("the last pair", x.best(1, 0), 56);
        Due.is("how often", x.best(1, 1), 1);
        x.can(5, 0, false);
        Due.is("none can", x.best(1, 0), NONE);
        // the most often comes ahead of the least pair
        VowTerrace y = Due.told("row 3;deed 1;house 0 1 0;house 2 2 0;vow 0 plain 0 0;vow 0 plain 0 0;");
        Due.is("best(1, 0)", y.best(1, 0), 12);
        Due.is("best(1, 1)", y.best(1, 1), 2);
        // HOUSES 0 and 1 are pair 1
        VowTerrace z = Due.told("row 2;deed 1;house 0 1 0;vow 0 plain 0 0;");
        Due.is("best(1, 0)", z.best(1, 0), 1);
    }

    private static void bestAtTheEdges() {
        VowTerrace x = Due.told("ring 5;deed 1;house 0 1 0;vow 0 plain 3 0;");
        for (int n = 1; n <= 20; n++) {
            Due.is("best(" + n + ", 0): done on the fourth day", x.best(n, 0), n < 4 ? NONE : 4);
            Due.is("best(" + n + ", 1)", x.best(n, 1), n < 4 ? NONE : 1);
        }
        for (int n : new int[] {-1, 0, 21, 60}) {
            Due.is("best(" + n + ", 0)", x.best(n, 0), BAD);
            Due.is("best(" + n + ", 1)", x.best(n, 1), BAD);
        }
        Due.is("best(1, 2)", x.best(1, 2), BAD);
        // a LAWYER stays where he is
        x.lawyer(4, true);
        Due.is("best(20, 0)", x.best(20, 0), NONE);
    }
}
