/** Promises 28 to 30 at their edges: mean, luck, drift. */
public final class HabitEdgeTest {
    private static final int BAD = VowTerrace.BAD;
    private static final int LEAST = Integer.MIN_VALUE, MOST = Integer.MAX_VALUE;

    public static void main(String[] args) {
        ofNothing();
        everyOdds();
        everyFall();
        lawyersAndThreats();
        lowestTerms();
        theLastMoney();
        othersAside();
        ringOfTwo();
        seeds();
        everyHouse();
        fewerThanTen();
        lastDays();
        Due.finish("HabitEdgeTest");
    }

    private static void mean(VowTerrace x, int h, long part, long whole) {
        Due.is("mean(" + h + ", 0)", x.mean(h, 0), part);
        Due.is("mean(" + h + ", 1)", x.mean(h, 1), whole);
    }

    private static void luck(VowTerrace x, int h, long part, long whole) {
        Due.is("luck(" + h + ", 0)", x.luck(h, 0), part);
        Due.is("luck(" + h + ", 1)", x.luck(h, 1), whole);
    }

    private static void ofNothing() {
        for (int h = 0; h < 3; h++) {
            mean(new VowTerrace(), h, 0, 1);
            luck(new VowTerrace(), h, 1, 1);
        }
        // a DEED that costs nothing
        VowTerrace x = Due.told("row 2;deed 0;habit 0 plain 0 10;");
        mean(x, 1, 0, 1);
        luck(x, 1, 0, 1);
        x.can(1, 0, true);
        luck(x, 1, 1, 1);
    }

    /** ODDS 0 is no HABIT, ODDS 10 always. */
    private static void everyOdds() {
        int[] parts = {0, 1, 1, 3, 2, 1, 3, 7, 4, 9, 1};
        int[] wholes = {1, 10, 5, 10, 5, 2, 5, 10, 5, 10, 1};
        VowTerrace x = Due.told("row 2;deed 1;house 1 0 0;");
        for (int odds = 0; odds <= 10; odds++) {
            x.habit(0, 0, 0, odds);
            mean(x, 1, parts[odds], wholes[odds]);
            // it can be paid when none is vowed
            x.fund(1, 0);
            luck(x, 1, parts[10 - odds], wholes[10 - odds]);
            x.fund(1, 1);
            luck(x, 1, 1, 1);
        }
    }

    /** Each KIND falls as in a DAY, into THE SEA too. */
    private static void everyFall() {
        for (int houses = 2; houses <= 7; houses++) {
            for (boolean ring : new boolean[] {false, true}) {
                for (int kind = 0; kind < 4; kind++) {
                    for (int from = 0; from < houses; from++) {
                        VowTerrace x = Due.told((ring ? "ring " : "row ") + houses + ";deed 3;");
                        x.habit(from, kind, 0, 10);
                        for (int h = 0; h < houses; h++) {
                            int times = 0;
                            for (int step : kind == 0 ? new int[] {1} : kind == 1 ? new int[] {-1} : kind == 2 ? new int[] {2} : new int[] {-1, 1}) {
                                int to = ring ? Math.floorMod(from + step, houses) : from + step;
                                times += to == h ? 1 : 0;
                            }
                            mean(x, h, 3 * times, 1);
                            x.can(h, 0, true);
                            x.fund(h, Math.max(0, 3 * times - 1));
                            luck(x, h, times == 0 ? 1 : 0, 1);
                            x.fund(h, 3 * times);
                            luck(x, h, 1, 1);
                        }
                    }
                }
            }
        }
    }

    private static void lawyersAndThreats() {
        VowTerrace x = Due.told("row 3;deed 9;habit 0 plain 0 10;habit 2 left 0 5;");
        mean(x, 1, 27, 2);
        luck(x, 1, 0, 1);
        x.lawyer(1, true);
        mean(x, 1, 0, 1);
        luck(x, 1, 1, 1);
        x.lawyer(1, false);
        // where it is vowed a LAWYER strikes nothing
        x.lawyer(0, true);
        x.lawyer(2, true);
        mean(x, 1, 27, 2);
        x.habit(0, 4, 0, 10);
        mean(x, 1, 9, 2);
        luck(x, 1, 1, 2);
        x.habit(2, 4, 0, 10);
        mean(x, 1, 0, 1);
        luck(x, 1, 1, 1);
    }

    private static void lowestTerms() {
        // three fall on 2: drunk from 0, plain from 1, left from 3
        VowTerrace x = Due.told("row 4;deed 1;habit 0 drunk 0 1;habit 1 plain 0 1;habit 3 left 0 1;");
        mean(x, 2, 3, 10);
        luck(x, 2, 729, 1000);
        x.can(2, 0, true);
        luck(x, 2, 729, 1000);
        x.fund(2, 1);
        luck(x, 2, 972 / 4, 1000 / 4);
        x.fund(2, 2);
        luck(x, 2, 999, 1000);
        x.fund(2, 3);
        luck(x, 2, 1, 1);
        x.habit(0, 2, 0, 10);
        x.habit(1, 0, 0, 10);
        x.habit(3, 1, 0, 10);
        mean(x, 2, 3, 1);
        x.fund(2, 2);
        luck(x, 2, 0, 1);
        // HOUSES whose HABITS fall elsewhere are no matter
        VowTerrace y = Due.told("ring 7;deed 1;habit 6 plain 0 3;");
        for (int h = 0; h < 6; h++) {
            y.habit(h, 0, 0, 7);
        }
        mean(y, 0, 3, 10);
        luck(y, 0, 7, 10);
        luck(y, 1, 3, 10);
    }

    /** "Its PURSE is as much as all COST", "it CAN each". */
    private static void theLastMoney() {
        VowTerrace x = Due.told("row 3;deed 4;deed 5;house 1 9 0 1;habit 0 plain 0 5;habit 2 left 1 2;");
        luck(x, 1, 1, 1);
        x.fund(1, 8);
        luck(x, 1, 9, 10);
        x.fund(1, 5);
        luck(x, 1, 9, 10);
        x.fund(1, 4);
        luck(x, 1, 4, 5);
        x.fund(1, 3);
        luck(x, 1, 2, 5);
        x.fund(1, 99);
        x.can(1, 0, false);
        luck(x, 1, 1, 2);
        x.can(1, 1, false);
        luck(x, 1, 2, 5);
        mean(x, 1, 3, 1);
    }

    /** A DAY without any others: VOWS and what is DONE are no matter. */
    private static void othersAside() {
        VowTerrace x = Due.told("row 3;deed 4;house 1 4 0;habit 0 plain 0 5;vow 0 plain 0 0;vow 0 plain 3 0;vow 2 left 9 0;");
        mean(x, 1, 2, 1);
        luck(x, 1, 1, 1);
        Due.is("go(1)", x.go(1), 1);
        mean(x, 1, 2, 1);
        luck(x, 1, 1, 2);
    }

    private static void ringOfTwo() {
        VowTerrace x = Due.told("ring 2;deed 9;house 0 18 0;habit 1 joint 0 10;");
        mean(x, 0, 18, 1);
        luck(x, 0, 1, 1);
        x.fund(0, 17);
        luck(x, 0, 0, 1);
        x.habit(0, 2, 0, 10);
        mean(x, 0, 27, 1);
        x.fund(0, 27);
        luck(x, 0, 1, 1);
        x.fund(0, 26);
        luck(x, 0, 0, 1);
    }

    /** By hand: 0 becomes 12345, whose bits 16 to 30 are 0; -1 becomes -1103502900. */
    private static void seeds() {
        VowTerrace x = Due.told("ring 3;deed 0;house 1 0 0;habit 0 plain 0 1;habit 1 plain 0 1;");
        Due.is("drift(0, 1, 0): house 0", x.drift(0, 1, 0), 1);
        Due.is("drift(0, 1, 1)", x.drift(0, 1, 1), 0);
        // 1103527590 is 16838 times 65536 and 22: house 2, who has no HABIT
        Due.is("drift(1, 1, 0)", x.drift(1, 1, 0), 0);
        Due.is("drift(1, 1, 1)", x.drift(1, 1, 1), 0);
        // -1103502900 and 2 to the 32nd is 3191464396: less 2 to the 31st 1043980748, 15929 times 65536 and more: house 2
        Due.is("drift(-1, 1, 0)", x.drift(-1, 1, 0), 0);
        // bit 31 of the seed is no matter: the least number does as 0
        Due.is("drift(least, 1, 0)", x.drift(LEAST, 1, 0), 1);
        Due.is("drift(most, 1, 0) as -1", x.drift(MOST, 1, 0), 0);
        for (int n = 1; n <= 60; n++) {
            Due.is("drift(least, n, 0) as of 0", x.drift(LEAST, n, 0), x.drift(0, n, 0));
            Due.is("drift(most, n, 1) as of -1", x.drift(MOST, n, 1), x.drift(-1, n, 1));
        }
    }

    private static int[] drawn(int seed, int n, int houses) {
        int[] all = new int[n];
        long state = seed & 0xffffffffL;
        for (int i = 0; i < n; i++) {
            state = (state * 1103515245L + 12345L) % (1L << 32);
            all[i] = (int) (state / 65536 % 32768 % houses);
        }
        return all;
    }

    /** Modulo HOUSES, of two to seven; each HOUSE by itself has a HABIT. */
    private static void everyHouse() {
        for (int houses = 2; houses <= 7; houses++) {
            for (int h = 0; h < houses; h++) {
                for (int seed : new int[] {0, 1, -1, 12345, LEAST, MOST}) {
                    VowTerrace x = Due.told("ring " + houses + ";deed 0;");
                    x.habit(h, 0, 0, 1);
                    for (int n : new int[] {1, 2, 59, 60}) {
                        int times = 0;
                        for (int who : drawn(seed, n, houses)) {
                            times += who == h ? 1 : 0;
                        }
                        Due.is("drift(seed, n, 1)", x.drift(seed, n, 1), times);
                        Due.is("drift(seed, n, 0)", x.drift(seed, n, 0), 0);
                        x.can((h + 1) % houses, 0, true);
                        Due.is("drift(seed, n, 0)", x.drift(seed, n, 0), times);
                        Due.is("drift(seed, n, 1)", x.drift(seed, n, 1), 0);
                        x.can((h + 1) % houses, 0, false);
                    }
                    x.habit(h, 0, 0, 0);
                    Due.is("ODDS 0", x.drift(seed, 60, 1), 0);
                }
            }
        }
    }

    /** Nine are fewer than ten; ten leave no room on that DAY. */
    private static void fewerThanTen() {
        VowTerrace x = Due.told("ring 2;deed 0;house 0 0 0;house 1 0 0;habit 0 plain 0 1;habit 1 plain 0 10;");
        Due.is("each day one", x.drift(3, 60, 0), 60);
        for (int i = 0; i < 9; i++) {
            x.vows(0, 0, 9, 0);
        }
        Due.is("nine walk on", x.drift(3, 60, 0), 60);
        x.vows(0, 0, 9, 0);
        Due.is("ten walk on", x.drift(3, 60, 0), 0);
        x.drop(0, 9);
        x.vows(0, 0, 0, 0);
        Due.is("the tenth is done on the first day, the others by habit", x.drift(3, 60, 0), 60);
        x.drop(0, 9);
        x.vows(0, 4, 0, 0);
        Due.is("the tenth is a threat on the first day", x.drift(3, 60, 0), 59);
        Due.is("rule(3): by itself", x.rule(3), 10);
        Due.is("count(0)", x.count(0), 0);
    }

    private static void lastDays() {
        VowTerrace x = Due.told("ring 2;deed 0;habit 0 plain 0 1;habit 1 plain 0 1;");
        for (int n : new int[] {LEAST, -1, 0, 61, MOST}) {
            Due.is("drift(0, " + n + ", 0)", x.drift(0, n, 0), BAD);
            Due.is("drift(0, " + n + ", 1)", x.drift(0, n, 1), BAD);
        }
        for (int n = 1; n <= 60; n++) {
            Due.is("drift(0, n, 1)", x.drift(0, n, 1), n);
        }
        x.vows(0, 0, 0, 0);
        x.go(1);
        Due.is("rule(8)", x.rule(8), 1);
        Due.is("FAILED in them alone", x.drift(0, 1, 1), 1);
        // DONE at 99: it is done still
        x.can(0, 0, true);
        x.can(1, 0, true);
        x.sheet(0, 0, 40);
        for (int i = 0; i < 10; i++) {
            x.read(0, 0, 0, 10);
            x.go(1);
        }
        Due.is("house(1, 10)", x.house(1, 10), 99);
        Due.is("drift(0, 60, 0)", x.drift(0, 60, 0), 60);
    }
}
