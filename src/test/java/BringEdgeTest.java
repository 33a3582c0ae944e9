import java.util.ArrayList;
import java.util.List;
import java.util.TreeSet;

/** BRINGS, NUMBERS and promises 22 to 24 at their edges: plan, who, ways. */
public final class BringEdgeTest {
    private static final int BAD = VowTerrace.BAD, NONE = VowTerrace.NONE;
    private static final String ALL_DEEDS = "deed9;deed9;deed9;deed9;deed9;";

    public static void main(String[] args) {
        allByThemselves();
        pursesAside();
        lawyersOnTheWay();
        days();
        ringOfTwo();
        ways();
        noWants();
        fourWants();
        theSameTwice();
        firstSet();
        byNone();
        numbers();
        Due.finish("BringEdgeTest");
    }

    /** Where a VOW comes down behind its last DAY, step by step; LAWYERS as bits. */
    private static TreeSet<Integer> ends(int from, int kind, int deep, int houses, boolean ring, int lawyers) {
        TreeSet<Integer> at = new TreeSet<>(List.of(from));
        for (int i = 0; i <= deep; i++) {
            TreeSet<Integer> next = new TreeSet<>();
            for (int h : at) {
                List<Integer> to = new ArrayList<>();
                if (kind == 1 || kind == 3) {
                    to.add(h - 1);
                }
                if (kind == 2) {
                    to.add(h + 2);
                }
                if (kind == 0 || kind == 3) {
                    to.add(h + 1);
                }
                for (int t : to) {
                    int place = ring ? Math.floorMod(t, houses) : t;
                    if (place >= 0 && place < houses && (lawyers >> place & 1) == 0) {
                        next.add(place);
                    }
                }
            }
            at = next;
        }
        return at;
    }

    private static TreeSet<Integer> numbers(int h, int d, int houses, boolean ring, int lawyers) {
        TreeSet<Integer> all = new TreeSet<>();
        for (int from = 0; from < houses; from++) {
            for (int kind = 0; kind < 4; kind++) {
                for (int deep = 0; deep < 4; deep++) {
                    if (ends(from, kind, deep, houses, ring, lawyers).contains(h)) {
                        all.add(100 * from + 20 * kind + 5 * deep + d);
                    }
                }
            }
        }
        return all;
    }

    /** Each HOUSE of each row and ring, without a LAWYER and with one in the first, in the last. */
    private static void allByThemselves() {
        for (int houses = 2; houses <= 7; houses++) {
            for (boolean ring : new boolean[] {false, true}) {
                for (int lawyers : new int[] {0, 1, 1 << houses - 1}) {
                    VowTerrace x = Due.told((ring ? "ring " : "row ") + houses + ";" + ALL_DEEDS);
                    for (int h = 0; h < houses; h++) {
                        x.lawyer(h, (lawyers >> h & 1) == 1);
                        x.can(h, 0, true);
                        x.can(h, 4, true);
                    }
                    for (int h = 0; h < houses; h++) {
                        TreeSet<Integer> first = numbers(h, 0, houses, ring, lawyers);
                        Due.is("ways(h, 0, 0)", x.ways(h, 0, 0), first.size());
                        Due.is("ways(h, 0, 1)", x.ways(h, 0, 1), first.isEmpty() ? NONE : first.first());
                        TreeSet<Integer> all = numbers(h, 4, houses, ring, lawyers);
                        Due.is("ways(h, 4, 0)", x.ways(h, 4, 0), all.size());
                        Due.is("ways(h, 4, 1)", x.ways(h, 4, 1), all.isEmpty() ? NONE : all.first());
                        Due.is("ways(h, 3, 0)", x.ways(h, 3, 0), 0);
                        for (int n = 1; n <= 4; n++) {
                            int bits = 0;
                            for (int number : all) {
                                bits |= number / 5 % 4 == n - 1 ? 1 << number / 100 : 0;
                            }
                            Due.is("who(h, 4, n)", x.who(h, 4, n), bits);
                            Due.is("who(h, 3, n)", x.who(h, 3, n), 0);
                        }
                    }
                }
            }
        }
    }

    private static void pursesAside() {
        VowTerrace x = Due.told("row 2;deed 9;house 1 0 0;want 1 0;");
        Due.is("who(1, 0, 1)", x.who(1, 0, 1), 1);
        Due.is("plan(0)", x.plan(0), 1);
        x.can(1, 0, false);
        x.fund(1, 99);
        Due.is("who(1, 0, 1): it can not", x.who(1, 0, 1), 0);
        Due.is("plan(0)", x.plan(0), NONE);
        x.can(1, 0, true);
        for (int i = 0; i < 10; i++) {
            x.vows(0, 4, 9, 0);
        }
        Due.is("plan(0): no others", x.plan(0), 1);
        Due.is("who(1, 0, 1)", x.who(1, 0, 1), 1);
    }

    /** Where it was vowed a LAWYER strikes nothing, on the way and where it comes down he does. */
    private static void lawyersOnTheWay() {
        VowTerrace x = Due.told("row 5;deed 0;house 4 0 0;lawyer 0;");
        Due.is("who(4, 0, 4): plain from 0", x.who(4, 0, 4) & 1, 1);
        Due.is("who(4, 0, 2): drunk from 0", x.who(4, 0, 2) & 1, 1);
        x.lawyer(2, true);
        Due.is("who(4, 0, 4)", x.who(4, 0, 4) & 1, 0);
        Due.is("who(4, 0, 2)", x.who(4, 0, 2) & 1, 0);
        Due.is("who(4, 0, 1): from 2 drunk, from 3 plain", x.who(4, 0, 1), 4 + 8);
        x.lawyer(4, true);
        for (int n = 1; n <= 4; n++) {
            Due.is("who(4, 0, n)", x.who(4, 0, n), 0);
        }
        Due.is("ways(4, 0, 0)", x.ways(4, 0, 0), 0);
        Due.is("ways(4, 0, 1)", x.ways(4, 0, 1), NONE);
    }

    private static void days() {
        VowTerrace x = Due.told("row 7;deed 0;house 4 0 0;");
        Due.is("who(4, 0, 0)", x.who(4, 0, 0), BAD);
        // by left from 5, by plain from 3, by drunk from 2
        Due.is("who(4, 0, 1)", x.who(4, 0, 1), 4 + 8 + 32);
        // from 6 and 2, drunk from 0, joint from 4
        Due.is("who(4, 0, 2)", x.who(4, 0, 2), 1 + 4 + 16 + 64);
        Due.is("who(4, 0, 3)", x.who(4, 0, 3), 2 + 8 + 32);
        Due.is("who(4, 0, 4)", x.who(4, 0, 4), 1 + 4 + 16 + 64);
        Due.is("who(4, 0, 5)", x.who(4, 0, 5), BAD);
    }

    /** Drunk comes down at home, joint twice next door. */
    private static void ringOfTwo() {
        VowTerrace x = Due.told("ring 2;deed 0;house 0 0 0;");
        Due.is("who(0, 0, 1)", x.who(0, 0, 1), 1 + 2);
        x.lawyer(1, true);
        Due.is("who(0, 0, 1)", x.who(0, 0, 1), 1 + 2);
        Due.is("who(0, 0, 2): drunk from 0 alone", x.who(0, 0, 2), 1);
        Due.is("ways(0, 0, 0): drunk four, from 1 plain, left, joint", x.ways(0, 0, 0), 7);
        Due.is("ways(0, 0, 1): drunk", x.ways(0, 0, 1), 40);
    }

    private static void ways() {
        VowTerrace x = Due.told("row 2;" + ALL_DEEDS + "house 0 0 4;");
        Due.is("ways(0, 4, 1): joint from 0, deep 1", x.ways(0, 4, 1), 69);
        Due.is("ways(0, 0, 1)", x.ways(0, 0, 1), NONE);
        Due.is("ways(0, 0, 0)", x.ways(0, 0, 0), 0);
        Due.is("ways(0, 4, 2)", x.ways(0, 4, 2), BAD);
        Due.is("ways(0, 4, -1)", x.ways(0, 4, -1), BAD);
        x.lawyer(1, true);
        Due.is("ways(0, 4, 1): left from 1", x.ways(0, 4, 1), 124);
        x.can(1, 0, true);
        x.lawyer(1, false);
        Due.is("ways(1, 0, 1): NUMBER 0", x.ways(1, 0, 1), 0);
    }

    private static void noWants() {
        VowTerrace x = new VowTerrace();
        Due.is("plan(0) of a new one", x.plan(0), 0);
        Due.is("plan(10)", x.plan(10), NONE);
        Due.is("plan(19)", x.plan(19), NONE);
        Due.is("plan(most)", x.plan(Integer.MAX_VALUE), NONE);
        for (int what : new int[] {-11, -10, -1, 1, 2, 9, Integer.MIN_VALUE, Integer.MIN_VALUE + 10}) {
            Due.is("plan(" + what + ")", x.plan(what), BAD);
        }
    }

    /** Four DEEDS are four VOWS; there is no fifth. */
    private static void fourWants() {
        VowTerrace x = Due.told("ring 7;" + ALL_DEEDS + "house 6 0 1 2 3 4;want 6 4;want 6 3;want 6 2;want 6 1;");
        Due.is("plan(0)", x.plan(0), 4);
        // from 0 left: DEEP 0 to 6; the first KIND that comes to 6 from 0 is left (20), plain goes to 1 .. 4
        for (int i = 0; i < 4; i++) {
            Due.is("plan(10 and " + i + ")", x.plan(10 + i), 21 + i);
        }
        Due.is("plan(14)", x.plan(14), NONE);
        for (int many = 3; many >= 0; many--) {
            x.drop(1, many);
            Due.is("plan(0)", x.plan(0), many);
            Due.is("plan(10): the least NUMBER", x.plan(10), many == 0 ? NONE : 25 - many);
            Due.is("plan: the last", x.plan(9 + many), many == 0 ? BAD : 24);
            Due.is("plan: behind the last", x.plan(10 + many), NONE);
        }
    }

    private static void theSameTwice() {
        VowTerrace x = Due.told("row 3;deed 1;house 1 0 0;want 1 0;want 1 0;want 1 0;want 1 0;");
        Due.is("plan(0)", x.plan(0), 1);
        Due.is("plan(10)", x.plan(10), 0);
        Due.is("plan(11)", x.plan(11), NONE);
    }

    /** The first set by NUMBERS from the least one on, not the set whose last one is least. */
    private static void firstSet() {
        // deed 0 is wanted in 1, 2, 3: joint from 2 DEEP 0 (260) brings 1 and 3, joint from 0 DEEP 2 (70) too;
        // 2 is brought by plain DEEP 1 (5), drunk (40), joint DEEP 1 (65)
        VowTerrace x = Due.told("row 4;deed 0;house 1 0 0;house 2 0 0;house 3 0 0;want 1 0;want 2 0;want 3 0;");
        Due.is("plan(0)", x.plan(0), 2);
        Due.is("plan(10)", x.plan(10), 5);
        Due.is("plan(11)", x.plan(11), 70);
        // 1 and 2 alone: 0 (plain) brings 1, 5 brings 2
        x.drop(1, 2);
        Due.is("plan(10)", x.plan(10), 0);
        Due.is("plan(11)", x.plan(11), 5);
        // 2 is wanted by another DEED of a lesser NUMBER
        VowTerrace y = Due.told("row 4;deed 0;deed 0;house 1 0 1;house 3 0 0;want 3 0;want 1 1;");
        Due.is("plan(10): by NUMBERS, not by WANTS", y.plan(10), 1);
        Due.is("plan(11)", y.plan(11), 10);
    }

    private static void byNone() {
        // one of the four can not be brought: none can
        VowTerrace x = Due.told("row 3;deed 1;house 1 0 0;want 1 0;want 2 0;");
        for (int what : new int[] {0, 10, 11, 14}) {
            Due.is("plan(" + what + ")", x.plan(what), NONE);
        }
        x.can(2, 0, true);
        Due.is("plan(0)", x.plan(0), 2);
        x.lawyer(2, true);
        Due.is("plan(0)", x.plan(0), NONE);
        x.drop(1, 1);
        Due.is("plan(0)", x.plan(0), 1);
        // HOUSE 0 of a row of two where 1 has a LAWYER: from 1 alone
        VowTerrace y = Due.told("row 2;deed 1;house 0 0 0;lawyer 1;want 0 0;");
        Due.is("plan(10)", y.plan(10), 120);
    }

    /** 100 times the HOUSE, 20 times the KIND, 5 times how DEEP, and the DEED, each at its most. */
    private static void numbers() {
        VowTerrace x = Due.told("row 7;" + ALL_DEEDS + "want 5 4;want 0 0;");
        for (int h = 0; h < 7; h++) {
            x.lawyer(h, h != 5 && h != 0);
        }
        x.can(5, 4, true);
        x.can(0, 0, true);
        // to 5: drunk from 3, plain or joint from 4, left or joint from 6; to 0: left or joint from 1
        Due.is("ways(5, 4, 0)", x.ways(5, 4, 0), 5);
        Due.is("ways(5, 4, 1)", x.ways(5, 4, 1), 344);
        Due.is("ways(0, 0, 0)", x.ways(0, 0, 0), 2);
        Due.is("plan(10): left from 1, deed 0", x.plan(10), 120);
        Due.is("plan(11): drunk from 3, deed 4", x.plan(11), 344);
        // joint DEEP 3 alone comes from 0 to both ends of its way
        VowTerrace y = Due.told("row 7;" + ALL_DEEDS + "house 0 0 4;house 4 0 4;want 0 4;want 4 4;");
        Due.is("plan(0)", y.plan(0), 1);
        Due.is("plan(10): joint from 0, DEEP 3, deed 4", y.plan(10), 60 + 15 + 4);
    }
}
