import java.util.function.IntPredicate;
import java.util.function.Supplier;

/** Promises 2 to 37: of each number of each call the last that is taken and the first that is refused, on each side. */
public final class BoundsTest {
    private static final int BAD = VowTerrace.BAD;

    private final String name;
    private final Supplier<VowTerrace> made;
    private final int houses;
    private final int deeds;
    private final int vows;
    private final int wants;

    private BoundsTest(String name, Supplier<VowTerrace> made, int houses, int deeds, int vows, int wants) {
        this.name = name;
        this.made = made;
        this.houses = houses;
        this.deeds = deeds;
        this.vows = vows;
        this.wants = wants;
    }

    public static void main(String[] args) {
        new BoundsTest("fresh", Made::fresh, 3, 0, 0, 0).all();
        new BoundsTest("small", Made::small, 2, 1, 1, 1).all();
        new BoundsTest("great", Made::great, 7, 5, 9, 3).all();
        tape();
        indexes();
        Due.finish("BoundsTest");
    }

    private void all() {
        asked();
        changed();
        habitAndVows();
        dropAndMove();
        days();
        whatToVow();
        others();
        sheets();
    }

    private void takes(String call, Edge.Ask ask, int least, int most) {
        Edge.takes(name + " " + call, made, ask, least, most);
    }

    private void takes(String call, Edge.Ask ask, IntPredicate taken) {
        Edge.takes(name + " " + call, made, ask, taken, BAD);
    }

    /** A number of a call that names a DEED too: without DEEDS it is always refused. */
    private void takesByDeed(String call, Edge.Ask ask, int least, int most) {
        takes(call, ask, deeds > 0 ? Edge.range(least, most) : v -> false);
    }

    private void asked() {
        takes("feed(c)", (x, v) -> x.feed(v), 0, 127);
        takes("rule(what)", (x, v) -> x.rule(v), 0, 8);
        takes("house(h, 0)", (x, v) -> x.house(v, 0), 0, houses - 1);
        takes("house(h, 5)", (x, v) -> x.house(v, 5), 0, houses - 1);
        takesByDeed("house(h, 10)", (x, v) -> x.house(v, 10), 0, houses - 1);
        takes("house(1, what)", (x, v) -> x.house(1, v), v -> 0 <= v && v <= 5 || 10 <= v && v <= 9 + deeds);
        takes("cost(d)", (x, v) -> x.cost(v), 0, deeds - 1);
        takes("vow(i, 0)", (x, v) -> x.vow(v, 0), 0, vows - 1);
        takes("vow(0, what)", (x, v) -> x.vow(0, v), 0, vows > 0 ? 3 : -1);
        takes("want(i, 1)", (x, v) -> x.want(v, 1), 0, wants - 1);
        takes("want(0, what)", (x, v) -> x.want(0, v), 0, wants > 0 ? 1 : -1);
    }

    private void changed() {
        takes("fund(h, 1)", (x, v) -> x.fund(v, 1), 0, houses - 1);
        takes("fund(0, v)", (x, v) -> x.fund(0, v), 0, 99);
        takesByDeed("can(h, 0, true)", (x, v) -> x.can(v, 0, true), 0, houses - 1);
        takesByDeed("can(h, 0, false)", (x, v) -> x.can(v, 0, false), 0, houses - 1);
        takes("can(0, d, true)", (x, v) -> x.can(0, v, true), 0, deeds - 1);
        takes("can(0, d, false)", (x, v) -> x.can(0, v, false), 0, deeds - 1);
        takes("lawyer(h, true)", (x, v) -> x.lawyer(v, true), 0, houses - 1);
        takes("lawyer(h, false)", (x, v) -> x.lawyer(v, false), 0, houses - 1);
    }

    private void habitAndVows() {
        takesByDeed("habit(h, 0, 0, 1)", (x, v) -> x.habit(v, 0, 0, 1), 0, houses - 1);
        takesByDeed("habit(0, kind, 0, 1)", (x, v) -> x.habit(0, v, 0, 1), 0, 4);
        takes("habit(0, 0, d, 1)", (x, v) -> x.habit(0, 0, v, 1), 0, deeds - 1);
        takesByDeed("habit(0, 0, 0, odds)", (x, v) -> x.habit(0, 0, 0, v), 0, 10);
        takesByDeed("vows(h, 0, 0, 0)", (x, v) -> x.vows(v, 0, 0, 0), 0, houses - 1);
        takesByDeed("vows(0, kind, 0, 0)", (x, v) -> x.vows(0, v, 0, 0), 0, 4);
        takes("vows(0, 0, deep, 0)", (x, v) -> x.vows(0, 0, v, 0), v -> deeds > 0 && (0 <= v && v <= 3 || v == 9));
        takes("vows(0, 0, 0, d)", (x, v) -> x.vows(0, 0, 0, v), 0, deeds - 1);
        takesByDeed("wish(h, 0)", (x, v) -> x.wish(v, 0), 0, houses - 1);
        takes("wish(0, d)", (x, v) -> x.wish(0, v), 0, deeds - 1);
    }

    private void dropAndMove() {
        takes("drop(what, 0)", (x, v) -> x.drop(v, 0), 0, 1);
        takes("drop(0, n)", (x, v) -> x.drop(0, v), 0, vows);
        takes("drop(1, n)", (x, v) -> x.drop(1, v), 0, wants);
        takes("move(a, 0)", (x, v) -> x.move(v, 0), 1, houses - 1);
        takes("move(0, b)", (x, v) -> x.move(0, v), 1, houses - 1);
        takes("move(a, 1)", (x, v) -> x.move(v, 1), v -> 0 <= v && v < houses && v != 1);
        takes("move(last, b)", (x, v) -> x.move(houses - 1, v), 0, houses - 2);
    }

    private void days() {
        takes("go(n)", (x, v) -> x.go(v), 0, 60);
        takesByDeed("ahead(h, 0, 1)", (x, v) -> x.ahead(v, 0, 1), 0, houses - 1);
        takes("ahead(0, d, 1)", (x, v) -> x.ahead(0, v, 1), 0, deeds - 1);
        takesByDeed("ahead(0, 0, n)", (x, v) -> x.ahead(0, 0, v), 0, 60);
    }

    private void whatToVow() {
        takes("plan(what)", (x, v) -> x.plan(v), v -> v == 0 || v >= 10);
        takesByDeed("who(h, 0, 1)", (x, v) -> x.who(v, 0, 1), 0, houses - 1);
        takes("who(0, d, 1)", (x, v) -> x.who(0, v, 1), 0, deeds - 1);
        takesByDeed("who(0, 0, n)", (x, v) -> x.who(0, 0, v), 1, 4);
        takesByDeed("ways(h, 0, 0)", (x, v) -> x.ways(v, 0, 0), 0, houses - 1);
        takesByDeed("ways(h, 0, 1)", (x, v) -> x.ways(v, 0, 1), 0, houses - 1);
        takes("ways(0, d, 0)", (x, v) -> x.ways(0, v, 0), 0, deeds - 1);
        takesByDeed("ways(0, 0, what)", (x, v) -> x.ways(0, 0, v), 0, 1);
    }

    private void others() {
        takes("stop(what)", (x, v) -> x.stop(v), 0, 1);
        takes("best(n, 0)", (x, v) -> x.best(v, 0), 1, 20);
        takes("best(n, 1)", (x, v) -> x.best(v, 1), 1, 20);
        takes("best(1, what)", (x, v) -> x.best(1, v), 0, 1);
        takes("mean(h, 0)", (x, v) -> x.mean(v, 0), 0, houses - 1);
        takes("mean(0, what)", (x, v) -> x.mean(0, v), 0, 1);
        takes("luck(h, 0)", (x, v) -> x.luck(v, 0), 0, houses - 1);
        takes("luck(0, what)", (x, v) -> x.luck(0, v), 0, 1);
        takes("drift(seed, 1, 0)", (x, v) -> x.drift(v, 1, 0), v -> true);
        takes("drift(1, n, 0)", (x, v) -> x.drift(1, v, 0), 1, 60);
        takes("drift(1, n, 1)", (x, v) -> x.drift(1, v, 1), 1, 60);
        takes("drift(1, 1, what)", (x, v) -> x.drift(1, 1, v), 0, 1);
        takes("keep(k)", (x, v) -> x.keep(v), 0, 1);
        takes("back(k)", (x, v) -> x.back(v), 0, 1);
        takes("count(what)", (x, v) -> x.count(v), 0, 6);
    }

    private void sheets() {
        takes("sheet(k, 0, 4)", (x, v) -> x.sheet(v, 0, 4), 0, 3);
        takes("sheet(0, lane, 4)", (x, v) -> x.sheet(0, v, 4), 0, 2);
        // below 0 the size is the machine's to refuse, by another answer
        takes("sheet(0, 0, n)", (x, v) -> x.sheet(0, 0, v), v -> v <= 40);
        Edge.takes(name + " sheet(1, 1, n)", made, (x, v) -> x.sheet(1, 1, Math.min(v, 40)), v -> v >= 0, -14);
        takes("sheet(k, 0, -1)", (x, v) -> x.sheet(v, 0, -1), 0, 3);
        takes("sheet(0, lane, -1)", (x, v) -> x.sheet(0, v, -1), 0, 2);
        takes("lay(k, 0, 0)", (x, v) -> x.lay(v, 0, 0), 0, 3);
        takes("read(k, 0, 0, 1)", (x, v) -> x.read(v, 0, 0, 1), 0, 3);
        takes("read(0, lane, 0, 1)", (x, v) -> x.read(0, v, 0, 1), 0, 2);
        takes("read(0, 0, 0, n)", (x, v) -> x.read(0, 0, 0, v), 0, 10);
        takes("read(3, 0, f, 1)", (x, v) -> x.read(3, 0, v, 1), v -> true);
    }

    /** end: as many bytes as there are. */
    private static void tape() {
        Edge.takes("fresh end(n)", Made::fresh, (x, v) -> x.end(v), 0, 0);
        Edge.takes("small end(n)", Made::small, (x, v) -> x.end(v), 0, 4);
        Edge.takes("great end(n)", Made::great, (x, v) -> x.end(v), 0, 14);
        Edge.takes("tapeFull end(n)", Made::tapeFull, (x, v) -> x.end(v), 0, 160);
        Edge.takes("tapeFull feed(c): BAD is ahead of FULL", Made::tapeFull, (x, v) -> x.feed(v), 0, 127);
    }

    /** lay: the machine's INDEX for SHEETS of 40, 8, 4 CELLS and of none, its NULL for all of nothing. */
    private static void indexes() {
        Edge.takes("lay(0, i, 1)", Made::great, (x, v) -> x.lay(0, v, 1), Edge.range(0, 39), -12);
        Edge.takes("lay(1, i, 1)", Made::great, (x, v) -> x.lay(1, v, 1), Edge.range(0, 7), -12);
        Edge.takes("lay(2, i, 1)", Made::great, (x, v) -> x.lay(2, v, 1), Edge.range(0, 3), -12);
        Edge.takes("lay(3, i, 1)", Made::great, (x, v) -> x.lay(3, v, 1), v -> false, -11);
        Supplier<VowTerrace> empty = () -> {
            VowTerrace x = Made.great();
            x.sheet(0, 0, 0);
            return x;
        };
        Edge.takes("lay(0, i, 1) of no cells", empty, (x, v) -> x.lay(0, v, 1), v -> false, -12);
    }
}
