import java.math.BigInteger;
import java.util.ArrayList;
import java.util.Arrays;
import java.util.Collections;
import java.util.List;
import java.util.TreeSet;

/** The document once more, by other means: whole days on lists of vows, all sets tried. */
final class Model {
    int houses = 3;
    boolean ring;
    List<Integer> costs = new ArrayList<>();
    int[] purse = new int[7];
    boolean[][] can = new boolean[7][5];
    boolean[] lawyer = new boolean[7];
    int[][] habit = new int[7][3];
    int[][] done = new int[7][5];
    List<int[]> vows = new ArrayList<>();
    List<int[]> wants = new ArrayList<>();
    int day, lost, struck, failed;
    boolean roomForAll;

    Model copy() {
        Model m = new Model();
        m.houses = houses;
        m.ring = ring;
        m.costs = new ArrayList<>(costs);
        m.purse = purse.clone();
        m.lawyer = lawyer.clone();
        for (int h = 0; h < 7; h++) {
            m.can[h] = can[h].clone();
            m.habit[h] = habit[h].clone();
            m.done[h] = done[h].clone();
        }
        m.vows = new ArrayList<>(vows);
        m.wants = new ArrayList<>(wants);
        m.day = day;
        m.lost = lost;
        m.struck = struck;
        m.failed = failed;
        return m;
    }

    /** -1 for the sea. */
    int right(int h, int steps) {
        for (int i = 0; i < Math.abs(steps); i++) {
            h += Integer.signum(steps);
            if (ring && h < 0) {
                h = houses - 1;
            } else if (ring && h >= houses) {
                h = 0;
            } else if (h < 0 || h >= houses) {
                return -1;
            }
        }
        return h;
    }

    List<Integer> falls(int h, int kind) {
        switch (kind) {
            case 1: return List.of(right(h, -1));
            case 2: return List.of(right(h, 2));
            case 3: return List.of(right(h, -1), right(h, 1));
            default: return List.of(right(h, 1));
        }
    }

    private boolean doOne(int h, int kind, int d) {
        if (kind == 4) {
            if (done[h][d] > 0) {
                done[h][d]--;
            }
        } else if (can[h][d] && purse[h] >= costs.get(d)) {
            if (done[h][d] < 99) {
                done[h][d]++;
            }
            purse[h] -= costs.get(d);
            return true;
        } else {
            failed++;
        }
        return false;
    }

    int days(int n) {
        int often = 0;
        for (int i = 0; i < n; i++) {
            List<int[]> next = new ArrayList<>();
            for (int[] v : vows) {
                for (int to : falls(v[0], v[1])) {
                    if (to < 0) {
                        lost++;
                    } else if (lawyer[to]) {
                        struck++;
                    } else if (v[2] == 0) {
                        often += doOne(to, v[1], v[3]) ? 1 : 0;
                    } else if (next.size() == 10 && !roomForAll) {
                        lost++;
                    } else {
                        next.add(new int[] {to, v[1], v[2] == 9 ? 9 : v[2] - 1, v[3]});
                    }
                }
            }
            vows = next;
            day++;
        }
        return often;
    }

    int rest() {
        Model m = copy();
        for (int n = 0; n <= 60; n++) {
            if (m.vows.isEmpty()) {
                return n;
            }
            m.days(1);
        }
        return VowTerrace.NONE;
    }

    /** Whether one vow by itself brings a deed to a house, by days with purses that are never empty. */
    boolean brings(int from, int kind, int deep, int d, int h) {
        if (kind == 4) {
            return false;
        }
        Model m = copy();
        m.done = new int[7][5];
        Arrays.fill(m.purse, 1_000_000);
        m.vows = new ArrayList<>();
        m.vows.add(new int[] {from, kind, deep, d});
        m.days(deep + 1);
        return m.done[h][d] > 0;
    }

    int who(int h, int d, int n) {
        int bits = 0;
        for (int from = 0; from < houses; from++) {
            for (int kind = 0; kind < 5; kind++) {
                if (brings(from, kind, n - 1, d, h)) {
                    bits |= 1 << from;
                }
            }
        }
        return bits;
    }

    TreeSet<Integer> bringers(int h, int d) {
        TreeSet<Integer> all = new TreeSet<>();
        for (int from = 0; from < houses; from++) {
            for (int kind = 0; kind < 5; kind++) {
                for (int deep = 0; deep < 4; deep++) {
                    if (brings(from, kind, deep, d, h)) {
                        all.add(100 * from + 20 * kind + 5 * deep + d);
                    }
                }
            }
        }
        return all;
    }

    /** The first of the smallest sets, null if there is none. */
    List<Integer> plan() {
        List<TreeSet<Integer>> each = new ArrayList<>();
        TreeSet<Integer> any = new TreeSet<>();
        for (int[] w : wants) {
            TreeSet<Integer> some = bringers(w[0], w[1]);
            each.add(some);
            any.addAll(some);
        }
        for (int size = 0; size <= 4; size++) {
            List<Integer> found = choose(new ArrayList<>(any), 0, size, each, new ArrayList<>());
            if (found != null) {
                return found;
            }
        }
        return null;
    }

    private List<Integer> choose(List<Integer> any, int from, int size, List<TreeSet<Integer>> each, List<Integer> taken) {
        int open = 0;
        for (TreeSet<Integer> some : each) {
            open += Collections.disjoint(some, taken) ? 1 : 0;
        }
        if (size == 0) {
            return open == 0 ? new ArrayList<>(taken) : null;
        }
        // a vow more that brings nothing new is in no smallest set
        for (int i = from; i < any.size(); i++) {
            boolean fresh = false;
            for (TreeSet<Integer> some : each) {
                fresh |= some.contains(any.get(i)) && Collections.disjoint(some, taken);
            }
            if (!fresh) {
                continue;
            }
            taken.add(any.get(i));
            List<Integer> found = choose(any, i + 1, size - 1, each, taken);
            taken.remove(taken.size() - 1);
            if (found != null) {
                return found;
            }
        }
        return null;
    }

    /** By days with room for all vows, those in one house being as good as one. */
    boolean endless(int[] vow) {
        if (vow[2] != 9) {
            return false;
        }
        Model m = copy();
        m.roomForAll = true;
        m.vows = new ArrayList<>(List.of(vow));
        for (int n = 0; n < 40; n++) {
            m.days(1);
            boolean[] seen = new boolean[7];
            m.vows.removeIf(v -> {
                boolean again = seen[v[0]];
                seen[v[0]] = true;
                return again;
            });
        }
        return !m.vows.isEmpty();
    }

    int ever() {
        int bits = 0;
        for (int i = 0; i < vows.size(); i++) {
            bits |= endless(vows.get(i)) ? 1 << i : 0;
        }
        return bits;
    }

    int stop() {
        for (int size = 0; size <= houses; size++) {
            for (int set = 0; set < 1 << houses; set++) {
                if (Integer.bitCount(set) == size && stopped(set)) {
                    return set;
                }
            }
        }
        throw new IllegalStateException("lawyers in all houses stop all");
    }

    private boolean stopped(int set) {
        Model m = copy();
        for (int h = 0; h < houses; h++) {
            if ((set >> h & 1) == 1) {
                if (lawyer[h]) {
                    return false;
                }
                m.lawyer[h] = true;
            }
        }
        return m.ever() == 0;
    }

    void move(int a, int b) {
        int p = purse[a];
        purse[a] = purse[b];
        purse[b] = p;
        boolean[] c = can[a];
        can[a] = can[b];
        can[b] = c;
    }

    /** {the two houses, how often}, null if by none. */
    int[] best(int n) {
        int[] found = null;
        int most = copy().days(n);
        for (int pair = 1; pair < 77; pair++) {
            int a = pair / 10;
            int b = pair % 10;
            if (a < b && b < houses) {
                Model m = copy();
                m.move(a, b);
                int often = m.days(n);
                if (often > most) {
                    most = often;
                    found = new int[] {pair, often};
                }
            }
        }
        return found;
    }

    /** {numerator, denominator} of the mean, then of the luck. */
    long[] habits(int h) {
        BigInteger sum = BigInteger.ZERO;
        BigInteger good = BigInteger.ZERO;
        BigInteger whole = BigInteger.TEN.pow(houses);
        for (int set = 0; set < 1 << houses; set++) {
            BigInteger weight = BigInteger.ONE;
            int cost = 0;
            boolean able = true;
            for (int from = 0; from < houses; from++) {
                int[] own = habit[from];
                boolean in = (set >> from & 1) == 1;
                weight = weight.multiply(BigInteger.valueOf(in ? own[2] : 10 - own[2]));
                for (int to : falls(from, own[0])) {
                    if (in && to == h && own[0] != 4 && own[2] > 0 && !lawyer[h]) {
                        cost += costs.get(own[1]);
                        able &= can[h][own[1]];
                    }
                }
            }
            sum = sum.add(weight.multiply(BigInteger.valueOf(cost)));
            if (able && cost <= purse[h]) {
                good = good.add(weight);
            }
        }
        BigInteger a = sum.gcd(whole);
        BigInteger b = good.gcd(whole);
        return new long[] {sum.divide(a).longValue(), whole.divide(a).longValue(), good.divide(b).longValue(), whole.divide(b).longValue()};
    }

    /** {done, failed}. */
    int[] drift(int seed, int n) {
        Model m = copy();
        int often = 0;
        BigInteger s = BigInteger.valueOf(seed);
        for (int i = 0; i < n; i++) {
            s = s.multiply(BigInteger.valueOf(1103515245)).add(BigInteger.valueOf(12345));
            int h = 0;
            for (int b = 0; b < 15; b++) {
                h |= s.testBit(16 + b) ? 1 << b : 0;
            }
            h %= houses;
            if (habit[h][2] != 0 && m.vows.size() < 10) {
                m.vows.add(new int[] {h, habit[h][0], 0, habit[h][1]});
            }
            often += m.days(1);
        }
        return new int[] {often, m.failed - failed};
    }
}
