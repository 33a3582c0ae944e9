/** A DAY and promises 19 to 21 at their edges: THE SEA, the RING, the tenth VOW, the last money, DONE 0 and 99, DAY 999. */
public final class DayEdgeTest {
    private static final int BAD = VowTerrace.BAD, FULL = VowTerrace.FULL, NONE = VowTerrace.NONE;
    private static final int SEA = -1;

    public static void main(String[] args) {
        everyFall();
        lawyersFirst();
        depths();
        behindOneAnother();
        theTenth();
        behindTheTenth();
        theLastMoney();
        threatsAtNothing();
        doneAtMost();
        go();
        ahead();
        rest();
        Due.finish("DayEdgeTest");
    }

    private static int at(int h, int houses, boolean ring) {
        if (ring) {
            return h < 0 ? h + houses : h >= houses ? h - houses : h;
        }
        return h < 0 || h >= houses ? SEA : h;
    }

    private static int[] falls(int h, int kind, int houses, boolean ring) {
        switch (kind) {
            case 1: return new int[] {at(h - 1, houses, ring)};
            case 2: return new int[] {at(h + 2, houses, ring)};
            case 3: return new int[] {at(h - 1, houses, ring), at(h + 1, houses, ring)};
            default: return new int[] {at(h + 1, houses, ring)};
        }
    }

    /** Each KIND from each HOUSE of each row and ring, DEEP and not. */
    private static void everyFall() {
        for (int houses = 2; houses <= 7; houses++) {
            for (int h = 0; h < houses; h++) {
                for (int kind = 0; kind < 5; kind++) {
                    oneFall(houses, false, h, kind);
                    oneFall(houses, true, h, kind);
                }
            }
        }
    }

    private static void oneFall(int houses, boolean ring, int h, int kind) {
        String shape = (ring ? "ring " : "row ") + houses + ";";
        String label = shape + " from " + h + " by " + kind;
        int[] to = falls(h, kind, houses, ring);
        for (int deep : new int[] {1, 3, 9}) {
            VowTerrace x = Due.told(shape + "deed 1;");
            x.vows(h, kind, deep, 0);
            x.go(1);
            int seen = 0;
            int lost = 0;
            for (int place : to) {
                if (place == SEA) {
                    lost++;
                } else {
                    Due.is(label + ": HOUSE", x.vow(seen, 0), place);
                    Due.is(label + ": KIND", x.vow(seen, 1), kind);
                    Due.is(label + ": DEEP", x.vow(seen, 2), deep == 9 ? 9 : deep - 1);
                    Due.is(label + ": DEED", x.vow(seen, 3), 0);
                    seen++;
                }
            }
            Due.is(label + ": VOWS", x.rule(3), seen);
            Due.is(label + ": LOST", x.rule(6), lost);
        }
        VowTerrace x = Due.told(shape + "deed 1;");
        x.vows(h, kind, 0, 0);
        x.go(1);
        int lost = to[0] == SEA ? 1 : 0;
        lost += to.length > 1 && to[1] == SEA ? 1 : 0;
        Due.is(label + " DEEP 0: LOST", x.rule(6), lost);
        Due.is(label + " DEEP 0: FAILED", x.rule(8), kind == 4 ? 0 : to.length - lost);
        Due.is(label + " DEEP 0: VOWS", x.rule(3), 0);
    }

    /** A LAWYER strikes all that falls on the HOUSE, of every KIND and depth; not what is vowed there. */
    private static void lawyersFirst() {
        for (int deep : new int[] {0, 1, 2, 3, 9}) {
            for (int kind = 0; kind < 5; kind++) {
                VowTerrace x = Due.told("ring 5;deed 0;house 0 0 0;house 1 0 0;house 2 0 0;house 3 0 0;house 4 0 0;");
                for (int h = 0; h < 5; h++) {
                    x.lawyer(h, true);
                }
                x.vows(2, kind, deep, 0);
                Due.is("go(1)", x.go(1), 0);
                Due.is("STRUCK", x.rule(7), kind == 3 ? 2 : 1);
                Due.is("VOWS", x.rule(3), 0);
                Due.is("LOST", x.rule(6), 0);
                Due.is("FAILED", x.rule(8), 0);
                for (int h = 0; h < 5; h++) {
                    x.lawyer(h, h == 2);
                }
                x.vows(2, kind, deep, 0);
                x.go(1);
                Due.is("none is struck in his own house", x.rule(7), kind == 3 ? 2 : 1);
            }
        }
        VowTerrace threat = Due.told("row 2;deed 0;house 1 0 0;vow 0 plain 0 0;");
        threat.go(1);
        threat.lawyer(1, true);
        threat.vows(0, 4, 0, 0);
        threat.go(1);
        Due.is("DONE: the threat is struck", threat.house(1, 10), 1);
    }

    /** DEEP 0 is done on the first DAY, DEEP 3 on the fourth, DEEP 9 never. */
    private static void depths() {
        for (int deep = 0; deep <= 3; deep++) {
            VowTerrace x = Due.told("ring 5;deed 0;house 0 0 0;house 1 0 0;house 2 0 0;house 3 0 0;house 4 0 0;");
            x.vows(0, 0, deep, 0);
            for (int day = 1; day <= 5; day++) {
                Due.is("DEEP " + deep + " on day " + day, x.go(1), day == deep + 1 ? 1 : 0);
                Due.is("VOWS behind it", x.rule(3), day <= deep ? 1 : 0);
            }
            Due.is("where", x.house(deep + 1, 10), 1);
            Due.is("count(0)", x.count(0), 1);
        }
        VowTerrace x = Due.told("ring 3;deed 0;house 0 0 0;house 1 0 0;house 2 0 0;vow 0 plain 9 0;");
        Due.is("go(60)", x.go(60), 0);
        Due.is("vow(0, 0)", x.vow(0, 0), 0);
        Due.is("vow(0, 2)", x.vow(0, 2), 9);
        Due.is("go(1)", x.go(1), 0);
        Due.is("vow(0, 0)", x.vow(0, 0), 1);
    }

    /** What fell is gone, what comes is by order of the falls, joint to the left first. */
    private static void behindOneAnother() {
        VowTerrace x = Due.told("row 4;deed 0;deed 1;deed 2;vow 1 joint 1 0;vow 3 left 2 1;vow 0 drunk 9 2;vow 3 plain 3 0;vow 0 threat 1 2;");
        x.go(1);
        int[][] due = {{0, 3, 0, 0}, {2, 3, 0, 0}, {2, 1, 1, 1}, {2, 2, 9, 2}, {1, 4, 0, 2}};
        Due.is("rule(3)", x.rule(3), due.length);
        for (int i = 0; i < due.length; i++) {
            for (int what = 0; what < 4; what++) {
                Due.is("vow(" + i + ", " + what + ")", x.vow(i, what), due[i][what]);
            }
        }
        Due.is("rule(6)", x.rule(6), 1);
    }

    private static VowTerrace jointVows(int many) {
        VowTerrace x = Due.told("ring 7;deed 0;deed 1;");
        for (int i = 0; i < many; i++) {
            x.vows(i % 7, 3, 9, i % 2);
        }
        return x;
    }

    private static void theTenth() {
        for (int many = 1; many <= 10; many++) {
            VowTerrace x = jointVows(many);
            x.go(1);
            Due.is("VOWS of " + many, x.rule(3), Math.min(10, 2 * many));
            Due.is("LOST of " + many, x.rule(6), Math.max(0, 2 * many - 10));
            for (int i = 0; i < Math.min(10, 2 * many); i++) {
                int from = i / 2 % 7;
                Due.is("vow(" + i + ", 0)", x.vow(i, 0), i % 2 == 0 ? (from + 6) % 7 : (from + 1) % 7);
                Due.is("vow(" + i + ", 3)", x.vow(i, 3), i / 2 % 2);
            }
            Due.is("vow(10, 0)", x.vow(10, 0), BAD);
        }
        // an odd one: the left fall of the last is the tenth, the right one is lost
        VowTerrace x = Due.told("ring 7;deed 0;vow 0 plain 9 0;");
        for (int i = 0; i < 5; i++) {
            x.vows(i, 3, 9, 0);
        }
        x.go(1);
        Due.is("rule(3)", x.rule(3), 10);
        Due.is("rule(6)", x.rule(6), 1);
        Due.is("vow(9, 0)", x.vow(9, 0), 3);
        x.go(1);
        Due.is("rule(6): each day anew", x.rule(6), 1 + 9);
        VowTerrace ten = jointVows(10);
        ten.go(60);
        Due.is("ten more each day", ten.rule(6), 600);
    }

    /** Behind the tenth THE SEA, LAWYERS and DEEDS are as ever. */
    private static void behindTheTenth() {
        VowTerrace x = Due.told("row 5;deed 0;house 1 0 0;lawyer 4;");
        for (int i = 0; i < 6; i++) {
            x.vows(2, 3, 9, 0);
        }
        x.vows(0, 0, 0, 0);
        x.vows(0, 1, 9, 0);
        x.vows(3, 0, 9, 0);
        x.vows(1, 0, 0, 0);
        Due.is("go(1): a deed is done", x.go(1), 1);
        Due.is("rule(3)", x.rule(3), 10);
        Due.is("LOST: two behind the tenth, one in the sea", x.rule(6), 3);
        Due.is("STRUCK", x.rule(7), 1);
        Due.is("FAILED", x.rule(8), 1);
        Due.is("house(1, 10)", x.house(1, 10), 1);
    }

    /** PURSE as much as COST, one less; a COST of 0; a HOUSE that can not. */
    private static void theLastMoney() {
        for (int cost = 0; cost <= 9; cost++) {
            for (int money = Math.max(0, cost - 1); money <= cost + 1; money++) {
                VowTerrace x = Due.told("row 2;deed " + cost + ";house 1 " + money + " 0;vow 0 plain 0 0;");
                boolean does = money >= cost;
                Due.is("go(1)", x.go(1), does ? 1 : 0);
                Due.is("PURSE", x.house(1, 0), does ? money - cost : money);
                Due.is("DONE", x.house(1, 10), does ? 1 : 0);
                Due.is("FAILED", x.rule(8), does ? 0 : 1);
                VowTerrace y = Due.told("row 2;deed " + cost + ";deed 0;house 1 " + money + " 1;vow 0 plain 0 0;");
                Due.is("go(1) of who can not", y.go(1), 0);
                Due.is("PURSE", y.house(1, 0), money);
                Due.is("FAILED", y.rule(8), 1);
            }
        }
        VowTerrace x = Due.told("row 2;deed 9;house 1 99 0;");
        for (int i = 0; i < 10; i++) {
            x.vows(0, 0, 0, 0);
        }
        Due.is("ten of 9", x.go(1), 10);
        Due.is("house(1, 0)", x.house(1, 0), 9);
        x.vows(0, 0, 0, 0);
        x.vows(0, 0, 0, 0);
        Due.is("one more", x.go(1), 1);
        Due.is("house(1, 0)", x.house(1, 0), 0);
        Due.is("rule(8)", x.rule(8), 1);
    }

    private static void threatsAtNothing() {
        VowTerrace x = Due.told("row 2;deed 9;deed 0;house 1 9 1;vow 0 threat 0 0;vow 0 threat 0 1;");
        Due.is("go(1)", x.go(1), 0);
        Due.is("DONE is 0 at least", x.house(1, 10), 0);
        Due.is("DONE is 0 at least", x.house(1, 11), 0);
        Due.is("FAILED", x.rule(8), 0);
        Due.is("PURSE", x.house(1, 0), 9);
        x.vows(0, 0, 0, 1);
        x.vows(0, 4, 0, 1);
        x.vows(0, 4, 0, 1);
        x.vows(0, 0, 0, 1);
        Due.is("go(1): threats aside", x.go(1), 2);
        Due.is("house(1, 11): by order", x.house(1, 11), 1);
        x.can(1, 1, false);
        x.fund(1, 0);
        x.vows(0, 4, 0, 1);
        Due.is("go(1)", x.go(1), 0);
        Due.is("who can not is threatened too", x.house(1, 11), 0);
        Due.is("FAILED", x.rule(8), 0);
    }

    private static void doneAtMost() {
        VowTerrace x = Due.told("row 2;deed 0;deed 1;house 1 99 0 1;");
        x.sheet(0, 0, 40);
        for (int i = 1; i <= 9; i++) {
            x.read(0, 0, 0, 10);
            x.go(1);
            Due.is("house(1, 10)", x.house(1, 10), 10 * i);
        }
        x.read(0, 0, 0, 8);
        x.go(1);
        Due.is("house(1, 10)", x.house(1, 10), 98);
        for (int i = 0; i < 3; i++) {
            x.vows(0, 0, 0, 0);
            Due.is("go(1)", x.go(1), 1);
            Due.is("house(1, 10): 99 at most", x.house(1, 10), 99);
        }
        Due.is("ahead(1, 0, 0)", x.ahead(1, 0, 0), 99);
        x.vows(0, 0, 0, 0);
        Due.is("ahead(1, 0, 1)", x.ahead(1, 0, 1), 99);
        x.vows(0, 4, 0, 0);
        x.vows(0, 4, 0, 0);
        x.vows(0, 0, 0, 1);
        Due.is("go(1)", x.go(1), 2);
        Due.is("house(1, 10): from 99 down", x.house(1, 10), 97);
        Due.is("house(1, 11): of that DEED alone", x.house(1, 11), 1);
        Due.is("count(0)", x.count(0), 98);
        Due.is("FAILED", x.rule(8), 0);
    }

    private static void go() {
        VowTerrace x = Due.told("ring 3;deed 0;house 1 0 0;vow 0 plain 0 0;");
        Due.is("go(0)", x.go(0), 0);
        Due.is("rule(5)", x.rule(5), 0);
        Due.is("rule(3)", x.rule(3), 1);
        Due.is("go(60)", x.go(60), 1);
        Due.is("rule(5)", x.rule(5), 60);
        for (int i = 0; i < 15; i++) {
            Due.is("go(60)", x.go(60), 0);
        }
        Due.is("rule(5)", x.rule(5), 960);
        Due.is("go(40): 1000", x.go(40), FULL);
        Due.is("go(60): 1020", x.go(60), FULL);
        Due.is("rule(5)", x.rule(5), 960);
        Due.is("go(38): 998", x.go(38), 0);
        Due.is("go(2): 1000", x.go(2), FULL);
        Due.is("go(1): 999", x.go(1), 0);
        Due.is("rule(5)", x.rule(5), 999);
        Due.is("go(1): 1000", x.go(1), FULL);
        Due.is("go(0)", x.go(0), 0);
        x.vows(0, 0, 0, 0);
        Due.is("ahead(1, 0, 60): days that do not go", x.ahead(1, 0, 60), 2);
        Due.is("rest()", x.rest(), 1);
        Due.is("drift(1, 60, 0)", x.drift(1, 60, 0), 1);
        Due.is("best(20, 0)", x.best(20, 0), NONE);
        Due.is("rule(5)", x.rule(5), 999);
        Due.tell(x, "deed 0;");
        Due.is("rule(5): a text begins anew", x.rule(5), 0);
        Due.is("go(1)", x.go(1), 0);
    }

    private static void ahead() {
        VowTerrace x = Due.told("ring 5;deed 1;house 4 2 0;vow 0 plain 3 0;vow 3 plain 0 0;vow 2 plain 1 0;");
        int[] due = {0, 1, 2, 2, 2, 2};
        for (int n = 0; n < due.length; n++) {
            Due.is("ahead(4, 0, " + n + ")", x.ahead(4, 0, n), due[n]);
        }
        x.fund(4, 3);
        Due.is("ahead(4, 0, 3)", x.ahead(4, 0, 3), 2);
        Due.is("ahead(4, 0, 4)", x.ahead(4, 0, 4), 3);
        Due.is("ahead(4, 0, 60)", x.ahead(4, 0, 60), 3);
        Due.is("ahead(4, 0, 61)", x.ahead(4, 0, 61), BAD);
        Due.is("ahead(4, 0, -1)", x.ahead(4, 0, -1), BAD);
        Due.is("ahead(0, 0, 60)", x.ahead(0, 0, 60), 0);
        Due.is("go(1)", x.go(1), 1);
        Due.is("ahead(4, 0, 3): from now on", x.ahead(4, 0, 3), 3);
        VowTerrace y = Due.told("row 2;deed 0;house 1 0 0;vow 0 plain 0 0;");
        y.go(1);
        y.vows(0, 4, 0, 0);
        Due.is("ahead(1, 0, 0)", y.ahead(1, 0, 0), 1);
        Due.is("ahead(1, 0, 1): less by a threat", y.ahead(1, 0, 1), 0);
    }

    private static void rest() {
        Due.is("rest() of a new one", new VowTerrace().rest(), 0);
        for (int deep = 0; deep <= 3; deep++) {
            Due.is("rest()", Due.told("ring 3;deed 0;vow 0 plain " + deep + " 0;").rest(), deep + 1);
        }
        for (int h = 0; h < 7; h++) {
            VowTerrace x = Due.told("row 7;deed 0;");
            x.vows(h, 0, 9, 0);
            Due.is("rest() to the right", x.rest(), 7 - h);
            x.drop(0, 0);
            x.vows(h, 1, 9, 0);
            Due.is("rest() to the left", x.rest(), h + 1);
            x.drop(0, 0);
            x.vows(h, 2, 9, 0);
            Due.is("rest() drunk", x.rest(), (8 - h) / 2);
            x.drop(0, 0);
            x.vows(h, 3, 9, 0);
            Due.is("rest() joint", x.rest(), NONE);
        }
        Due.is("rest() in a ring", Due.told("ring 7;deed 0;vow 0 plain 9 0;").rest(), NONE);
        Due.is("rest() at a lawyer", Due.told("ring 7;deed 0;lawyer 6;vow 0 plain 9 0;").rest(), 6);
        Due.is("rest() of the last one", Due.told("row 7;deed 0;vow 0 plain 0 0;vow 6 left 9 0;vow 0 plain 3 0;").rest(), 7);
    }
}
