import java.util.List;
import java.util.Random;
import java.util.TreeSet;

/** All answers about vows, days and habits beside those of the Model, in many terraces. */
public final class RandomTest {
    private static final String[] KINDS = {"plain", "left", "drunk", "joint", "threat"};

    public static void main(String[] args) {
        for (int seed = 0; seed < 500; seed++) {
            run(seed);
        }
        Due.finish("RandomTest");
    }

    private static void run(int seed) {
        Random r = new Random(seed);
        Model m = new Model();
        VowTerrace x = new VowTerrace();
        tellBoth(x, m, r);
        for (int i = 0; i < 12; i++) {
            change(x, m, r);
            String place = "seed " + seed + " step " + i + ": ";
            compareState(place, x, m);
            compareAnswers(place, x, m, r);
        }
    }

    private static void tellBoth(VowTerrace x, Model m, Random r) {
        StringBuilder s = new StringBuilder();
        m.houses = 2 + r.nextInt(6);
        m.ring = r.nextBoolean();
        s.append(m.ring ? "ring " : "row ").append(m.houses).append(';');
        int deeds = 1 + r.nextInt(5);
        for (int d = 0; d < deeds; d++) {
            m.costs.add(r.nextInt(10));
            s.append("deed ").append(m.costs.get(d)).append(';');
        }
        for (int h = 0; h < m.houses; h++) {
            if (r.nextInt(4) == 0 && s.length() < 130) {
                m.habit[h] = new int[] {r.nextInt(5), r.nextInt(deeds), r.nextInt(11)};
                s.append("habit ").append(h).append(' ').append(KINDS[m.habit[h][0]]).append(' ')
                    .append(m.habit[h][1]).append(' ').append(m.habit[h][2]).append(';');
            }
        }
        Due.tell(x, s.toString());
        for (int h = 0; h < m.houses; h++) {
            m.purse[h] = r.nextInt(40);
            x.fund(h, m.purse[h]);
            for (int d = 0; d < deeds; d++) {
                m.can[h][d] = r.nextInt(3) > 0;
                x.can(h, d, m.can[h][d]);
            }
        }
    }

    private static void change(VowTerrace x, Model m, Random r) {
        int h = r.nextInt(m.houses);
        int d = r.nextInt(m.costs.size());
        int other = r.nextInt(m.houses);
        for (int i = r.nextInt(5); i > 0; i--) {
            int[] vow = {r.nextInt(m.houses), r.nextInt(5), new int[] {0, 1, 2, 3, 9}[r.nextInt(5)], r.nextInt(m.costs.size())};
            boolean room = m.vows.size() < 10;
            if (room) {
                m.vows.add(vow);
            }
            Due.is("vows", x.vows(vow[0], vow[1], vow[2], vow[3]), room ? m.vows.size() : VowTerrace.FULL);
        }
        switch (r.nextInt(8)) {
            case 0:
                Due.is("lawyer", x.lawyer(h, !m.lawyer[h]), m.lawyer[h] ? 1 : 0);
                m.lawyer[h] = !m.lawyer[h];
                break;
            case 1:
                m.habit[h] = new int[] {r.nextInt(5), d, r.nextInt(11)};
                x.habit(h, m.habit[h][0], d, m.habit[h][2]);
                break;
            case 2:
                m.purse[h] = r.nextInt(100);
                x.fund(h, m.purse[h]);
                break;
            case 3:
                if (h != other) {
                    m.move(h, other);
                    x.move(h, other);
                }
                break;
            case 4:
                int n = r.nextInt(m.vows.size() + 1);
                Due.is("drop", x.drop(0, n), m.vows.size());
                m.vows = new java.util.ArrayList<>(m.vows.subList(0, n));
                break;
            default:
                int days = r.nextInt(4);
                Due.is("go", x.go(days), m.days(days));
                break;
        }
        if (m.wants.size() == 4) {
            x.drop(1, 0);
            m.wants.clear();
        }
        x.wish(other, d);
        m.wants.add(new int[] {other, d});
    }

    private static void compareState(String place, VowTerrace x, Model m) {
        int[] rules = {m.houses, m.ring ? 1 : 0, m.costs.size(), m.vows.size(), m.wants.size(), m.day, m.lost, m.struck, m.failed};
        for (int what = 0; what < rules.length; what++) {
            Due.is(place + "rule(" + what + ")", x.rule(what), rules[what]);
        }
        for (int h = 0; h < m.houses; h++) {
            Due.is(place + "house(" + h + ", 0)", x.house(h, 0), m.purse[h]);
            for (int d = 0; d < m.costs.size(); d++) {
                Due.is(place + "house(" + h + ", 10 and " + d + ")", x.house(h, 10 + d), m.done[h][d]);
            }
        }
        for (int i = 0; i < m.vows.size(); i++) {
            for (int what = 0; what < 4; what++) {
                Due.is(place + "vow(" + i + ", " + what + ")", x.vow(i, what), m.vows.get(i)[what]);
            }
        }
    }

    private static void compareAnswers(String place, VowTerrace x, Model m, Random r) {
        int h = r.nextInt(m.houses);
        int d = r.nextInt(m.costs.size());
        int n = 1 + r.nextInt(4);
        int far = r.nextInt(61);
        int seed = r.nextInt();
        Model later = m.copy();
        later.days(far);
        Due.is(place + "ahead", x.ahead(h, d, far), later.done[h][d]);
        Due.is(place + "rest", x.rest(), m.rest());
        Due.is(place + "who", x.who(h, d, n), m.who(h, d, n));
        TreeSet<Integer> ways = m.bringers(h, d);
        Due.is(place + "ways 0", x.ways(h, d, 0), ways.size());
        Due.is(place + "ways 1", x.ways(h, d, 1), ways.isEmpty() ? VowTerrace.NONE : ways.first());
        List<Integer> plan = m.plan();
        Due.is(place + "plan 0", x.plan(0), plan == null ? VowTerrace.NONE : plan.size());
        for (int i = 0; i < 5; i++) {
            boolean is = plan != null && i < plan.size();
            Due.is(place + "plan 10 and " + i, x.plan(10 + i), is ? plan.get(i) : VowTerrace.NONE);
        }
        Due.is(place + "ever", x.ever(), m.ever());
        int stop = m.stop();
        Due.is(place + "stop 0", x.stop(0), Integer.bitCount(stop));
        Due.is(place + "stop 1", x.stop(1), stop);
        int days = 1 + r.nextInt(20);
        int[] best = m.best(days);
        Due.is(place + "best 0", x.best(days, 0), best == null ? VowTerrace.NONE : best[0]);
        Due.is(place + "best 1", x.best(days, 1), best == null ? VowTerrace.NONE : best[1]);
        long[] habits = m.habits(h);
        Due.is(place + "mean 0", x.mean(h, 0), habits[0]);
        Due.is(place + "mean 1", x.mean(h, 1), habits[1]);
        Due.is(place + "luck 0", x.luck(h, 0), habits[2]);
        Due.is(place + "luck 1", x.luck(h, 1), habits[3]);
        int[] drift = m.drift(seed, 1 + far % 60);
        Due.is(place + "drift 0", x.drift(seed, 1 + far % 60, 0), drift[0]);
        Due.is(place + "drift 1", x.drift(seed, 1 + far % 60, 1), drift[1]);
    }
}
