import java.util.ArrayList;
import java.util.List;
import java.util.TreeSet;

/** The whole class once more, beside a Model: THE TAPE a text, SHEETS real arrays whose faults the real machine finds. */
final class Whole {
    private static final int BAD = -1, STATE = -2, FULL = -3, NONE = -4;

    private Model m = new Model();
    private final StringBuilder tape = new StringBuilder();
    private final Model[] images = new Model[2];
    private final Object[] sheets = new Object[4];
    private int fault;
    private int torn;

    private static boolean in(int v, int least, int most) {
        return v >= least && v <= most;
    }

    private boolean noHouse(int h) {
        return !in(h, 0, m.houses - 1);
    }

    private boolean noDeed(int d) {
        return !in(d, 0, m.costs.size() - 1);
    }

    /** The call by its name, with as many of the numbers as it takes (a boolean is 1, 0). */
    long call(String name, int a, int b, int c, int d) {
        switch (name) {
            case "feed": return feed(a);
            case "end": return end(a);
            case "text": return text();
            case "fault": return fault;
            case "rule": return in(a, 0, 8) ? rules()[a] : BAD;
            case "house": return house(a, b);
            case "cost": return noDeed(a) ? BAD : m.costs.get(a);
            case "vow": return part(m.vows, a, b, 3);
            case "want": return part(m.wants, a, b, 1);
            case "fund": return fund(a, b);
            case "can": return can(a, b, c == 1);
            case "lawyer": return lawyer(a, b == 1);
            case "habit": return habit(a, b, c, d);
            case "vows": return vows(a, b, c, d);
            case "wish": return wish(a, b);
            case "drop": return drop(a, b);
            case "move": return move(a, b);
            case "go": return go(a);
            case "keep": return keep(a);
            case "back": return back(a);
            case "sheet": return sheet(a, b, c);
            case "lay": return lay(a, b, c);
            case "read": return read(a, b, c, d);
            case "torn": return torn;
            case "count": return in(a, 0, 6) ? counts()[a] : BAD;
            default: return ask(name, a, b, c);
        }
    }

    private long ask(String name, int a, int b, int c) {
        switch (name) {
            case "ahead": return ahead(a, b, c);
            case "rest": return m.rest();
            case "plan": return plan(a);
            case "who": return noHouse(a) || noDeed(b) || !in(c, 1, 4) ? BAD : m.who(a, b, c);
            case "ways": return ways(a, b, c);
            case "ever": return m.ever();
            case "stop": return a == 0 ? Integer.bitCount(m.stop()) : a == 1 ? m.stop() : BAD;
            case "best": return best(a, b);
            case "mean": return noHouse(a) || !in(b, 0, 1) ? BAD : m.habits(a)[b];
            case "luck": return noHouse(a) || !in(b, 0, 1) ? BAD : m.habits(a)[2 + b];
            case "drift": return !in(b, 1, 60) || !in(c, 0, 1) ? BAD : m.drift(a, b)[c];
            default: throw new IllegalArgumentException(name);
        }
    }

    private int feed(int c) {
        if (!in(c, 0, 127)) {
            return BAD;
        }
        return tape.length() == 160 ? FULL : tape.append((char) c).length();
    }

    private int end(int n) {
        int had = tape.length();
        if (!in(n, 0, had)) {
            return BAD;
        }
        tape.delete(n, had);
        return had;
    }

    private int text() {
        Told told = new Told(tape.toString());
        tape.delete(0, tape.length());
        fault = told.fault;
        if (fault != 0) {
            return -10 - told.place;
        }
        m = told.model;
        images[0] = null;
        images[1] = null;
        return told.lines;
    }

    private int[] rules() {
        return new int[] {m.houses, m.ring ? 1 : 0, m.costs.size(), m.vows.size(), m.wants.size(), m.day, m.lost, m.struck, m.failed};
    }

    private int skills(int h) {
        int bits = 0;
        for (int d = 0; d < 5; d++) {
            bits += m.can[h][d] ? 1 << d : 0;
        }
        return bits;
    }

    private int house(int h, int what) {
        if (noHouse(h) || !in(what, 0, 5) && !in(what, 10, 9 + m.costs.size())) {
            return BAD;
        }
        return what >= 10 ? m.done[h][what - 10]
            : new int[] {m.purse[h], skills(h), m.lawyer[h] ? 1 : 0, m.habit[h][0], m.habit[h][1], m.habit[h][2]}[what];
    }

    private static int part(List<int[]> list, int i, int what, int most) {
        return in(i, 0, list.size() - 1) && in(what, 0, most) ? list.get(i)[what] : BAD;
    }

    private int fund(int h, int v) {
        if (noHouse(h) || !in(v, 0, 99)) {
            return BAD;
        }
        int was = m.purse[h];
        m.purse[h] = v;
        return was;
    }

    private int can(int h, int d, boolean is) {
        if (noHouse(h) || noDeed(d)) {
            return BAD;
        }
        boolean was = m.can[h][d];
        m.can[h][d] = is;
        return was ? 1 : 0;
    }

    private int lawyer(int h, boolean is) {
        if (noHouse(h)) {
            return BAD;
        }
        boolean was = m.lawyer[h];
        m.lawyer[h] = is;
        return was ? 1 : 0;
    }

    private int habit(int h, int kind, int d, int odds) {
        if (noHouse(h) || !in(kind, 0, 4) || noDeed(d) || !in(odds, 0, 10)) {
            return BAD;
        }
        int was = m.habit[h][2];
        m.habit[h] = new int[] {kind, d, odds};
        return was;
    }

    private int vows(int h, int kind, int deep, int d) {
        if (noHouse(h) || !in(kind, 0, 4) || !in(deep, 0, 3) && deep != 9 || noDeed(d)) {
            return BAD;
        }
        if (m.vows.size() == 10) {
            return FULL;
        }
        m.vows.add(new int[] {h, kind, deep, d});
        return m.vows.size();
    }

    private int wish(int h, int d) {
        if (noHouse(h) || noDeed(d)) {
            return BAD;
        }
        if (m.wants.size() == 4) {
            return FULL;
        }
        m.wants.add(new int[] {h, d});
        return m.wants.size();
    }

    private int drop(int what, int n) {
        if (!in(what, 0, 1)) {
            return BAD;
        }
        List<int[]> list = what == 0 ? m.vows : m.wants;
        int were = list.size();
        if (!in(n, 0, were)) {
            return BAD;
        }
        list.subList(n, were).clear();
        return were;
    }

    private int move(int a, int b) {
        if (noHouse(a) || noHouse(b) || a == b) {
            return BAD;
        }
        m.move(a, b);
        return Integer.bitCount(skills(a));
    }

    private int go(int n) {
        if (!in(n, 0, 60)) {
            return BAD;
        }
        return m.day + n > 999 ? FULL : m.days(n);
    }

    private int ahead(int h, int d, int n) {
        if (noHouse(h) || noDeed(d) || !in(n, 0, 60)) {
            return BAD;
        }
        Model later = m.copy();
        later.days(n);
        return later.done[h][d];
    }

    private int plan(int what) {
        if (what < 10 && what != 0) {
            return BAD;
        }
        List<Integer> set = m.plan();
        if (set == null) {
            return NONE;
        }
        return what == 0 ? set.size() : what - 10 < set.size() ? set.get(what - 10) : NONE;
    }

    private int ways(int h, int d, int what) {
        if (noHouse(h) || noDeed(d) || !in(what, 0, 1)) {
            return BAD;
        }
        TreeSet<Integer> all = m.bringers(h, d);
        return what == 0 ? all.size() : all.isEmpty() ? NONE : all.first();
    }

    private int best(int n, int what) {
        if (!in(n, 1, 20) || !in(what, 0, 1)) {
            return BAD;
        }
        int[] found = m.best(n);
        return found == null ? NONE : found[what];
    }

    private int keep(int k) {
        if (!in(k, 0, 1)) {
            return BAD;
        }
        int was = images[k] == null ? 0 : 1;
        images[k] = m.copy();
        return was;
    }

    private int back(int k) {
        if (!in(k, 0, 1)) {
            return BAD;
        }
        if (images[k] == null) {
            return STATE;
        }
        m = images[k].copy();
        return m.day;
    }

    private int sheet(int k, int lane, int n) {
        if (!in(k, 0, 3) || !in(lane, 0, 2) || n > 40) {
            return BAD;
        }
        try {
            sheets[k] = lane == 0 ? new byte[n] : lane == 1 ? new short[n] : new int[n];
        } catch (NegativeArraySizeException e) {
            return -10 - 4;
        }
        return 1;
    }

    private int lay(int k, int i, int v) {
        if (!in(k, 0, 3)) {
            return BAD;
        }
        try {
            if (sheets[k] instanceof byte[]) {
                ((byte[]) sheets[k])[i] = (byte) v;
            } else if (sheets[k] instanceof short[]) {
                ((short[]) sheets[k])[i] = (short) v;
            } else {
                ((int[]) sheets[k])[i] = v;
            }
        } catch (NullPointerException e) {
            return -10 - 1;
        } catch (ArrayIndexOutOfBoundsException e) {
            return -10 - 2;
        }
        return 1;
    }

    /** The cast comes first, as it does where a row is taken as of a lane once, and then read. */
    private int read(int k, int lane, int f, int n) {
        if (!in(k, 0, 3) || !in(lane, 0, 2) || !in(n, 0, 10)) {
            return BAD;
        }
        List<int[]> were = new ArrayList<>(m.vows);
        int came = 0;
        int found = 0;
        try {
            byte[] bytes = lane == 0 ? (byte[]) sheets[k] : null;
            short[] shorts = lane == 1 ? (short[]) sheets[k] : null;
            int[] ints = lane == 2 ? (int[]) sheets[k] : null;
            for (int i = 0; i < n; i++) {
                int[] v = new int[4];
                for (int j = 0; j < 4; j++) {
                    int at = f + 4 * i + j;
                    v[j] = lane == 0 ? bytes[at] : lane == 1 ? shorts[at] : ints[at];
                }
                if (vows(v[0], v[1], v[2], v[3]) < 0) {
                    m.vows = were;
                    return -20 - i;
                }
                came++;
            }
        } catch (NullPointerException e) {
            found = 1;
        } catch (ArrayIndexOutOfBoundsException e) {
            found = 2;
        } catch (ClassCastException e) {
            found = 3;
        }
        torn = found;
        return came;
    }

    private int[] counts() {
        int[] all = {0, 0, 0, 0, tape.length(), NONE, 0};
        for (int h = 0; h < m.houses; h++) {
            for (int often : m.done[h]) {
                all[0] += often;
            }
            all[1] += m.purse[h];
            all[2] += m.lawyer[h] ? 1 : 0;
        }
        all[3] = (images[0] == null ? 0 : 1) + (images[1] == null ? 0 : 1);
        if (sheets[0] != null) {
            all[5] = java.lang.reflect.Array.getLength(sheets[0]);
        }
        for (int[] v : m.vows) {
            all[6] += v[2] == 9 ? 1 : 0;
        }
        return all;
    }
}
