import java.util.List;
import java.util.function.Supplier;

/** "The first that fits; what is refused changes nothing": the order of BAD, STATE, FULL, NONE, and calls that only ask. */
public final class RefusedTest {
    private static final int BAD = VowTerrace.BAD, STATE = VowTerrace.STATE, FULL = VowTerrace.FULL, NONE = VowTerrace.NONE;

    public static void main(String[] args) {
        full();
        badAheadOfFull();
        state();
        none();
        machine();
        readRefused();
        texts();
        asksAlone();
        Due.finish("RefusedTest");
    }

    private static void full() {
        Edge.refused("feed on 160 bytes", Made::tapeFull, x -> x.feed(32), FULL);
        Edge.refused("the 11th vow", Made::full, x -> x.vows(0, 0, 0, 0), FULL);
        Edge.refused("the 11th vow, deep 9", Made::full, x -> x.vows(6, 4, 9, 4), FULL);
        Edge.refused("the 5th want", Made::full, x -> x.wish(0, 0), FULL);
        Edge.refused("day 1000", Made::lastDay, x -> x.go(1), FULL);
        Edge.refused("day 1059", Made::lastDay, x -> x.go(60), FULL);
        Due.is("go(0) on day 999", Made.lastDay().go(0), 0);
        Due.is("the 10th vow", Made.great().vows(0, 0, 0, 0), 10);
        Due.is("the 4th want", Made.great().wish(0, 0), 4);
    }

    private static void badAheadOfFull() {
        Edge.refused("feed(128)", Made::tapeFull, x -> x.feed(128), BAD);
        Edge.refused("feed(-1)", Made::tapeFull, x -> x.feed(-1), BAD);
        Edge.refused("vows(7, ..)", Made::full, x -> x.vows(7, 0, 0, 0), BAD);
        Edge.refused("vows(.., 5, ..)", Made::full, x -> x.vows(0, 5, 0, 0), BAD);
        Edge.refused("vows(.., 4, ..)", Made::full, x -> x.vows(0, 0, 4, 0), BAD);
        Edge.refused("vows(.., 5)", Made::full, x -> x.vows(0, 0, 0, 5), BAD);
        Edge.refused("wish(7, 0)", Made::full, x -> x.wish(7, 0), BAD);
        Edge.refused("wish(0, 5)", Made::full, x -> x.wish(0, 5), BAD);
        Edge.refused("go(61)", Made::lastDay, x -> x.go(61), BAD);
        Edge.refused("go(-1)", Made::lastDay, x -> x.go(-1), BAD);
    }

    private static void state() {
        Edge.refused("back(0)", Made::fresh, x -> x.back(0), STATE);
        Edge.refused("back(1)", Made::fresh, x -> x.back(1), STATE);
        Edge.refused("back(1) where 0 is", Made::small, x -> x.back(1), STATE);
        Edge.refused("back(2): BAD is ahead of STATE", Made::fresh, x -> x.back(2), BAD);
        Edge.refused("back(-1): BAD is ahead of STATE", Made::fresh, x -> x.back(-1), BAD);
    }

    /** One WANT that none can bring, no DEED that may be done better. */
    private static VowTerrace hopeless() {
        VowTerrace x = Made.small();
        x.can(1, 0, false);
        return x;
    }

    private static void none() {
        Edge.refused("plan(0)", RefusedTest::hopeless, x -> x.plan(0), NONE);
        Edge.refused("plan(10)", RefusedTest::hopeless, x -> x.plan(10), NONE);
        Edge.refused("plan(9): BAD is ahead of NONE", RefusedTest::hopeless, x -> x.plan(9), BAD);
        Edge.refused("plan(-1): BAD is ahead of NONE", RefusedTest::hopeless, x -> x.plan(-1), BAD);
        Edge.refused("ways(1, 0, 1)", RefusedTest::hopeless, x -> x.ways(1, 0, 1), NONE);
        Edge.refused("ways(1, 0, 2): BAD is ahead of NONE", RefusedTest::hopeless, x -> x.ways(1, 0, 2), BAD);
        Edge.refused("ways(2, 0, 1): BAD is ahead of NONE", RefusedTest::hopeless, x -> x.ways(2, 0, 1), BAD);
        Edge.refused("best(1, 0)", RefusedTest::hopeless, x -> x.best(1, 0), NONE);
        Edge.refused("best(20, 1)", RefusedTest::hopeless, x -> x.best(20, 1), NONE);
        Edge.refused("best(0, 0): BAD is ahead of NONE", RefusedTest::hopeless, x -> x.best(0, 0), BAD);
        Edge.refused("best(1, 2): BAD is ahead of NONE", RefusedTest::hopeless, x -> x.best(1, 2), BAD);
        Edge.refused("count(5)", Made::small, x -> x.count(5), NONE);
        Edge.refused("rest()", Made::great, x -> x.rest(), NONE);
    }

    private static void machine() {
        Edge.refused("sheet(0, 0, -1)", Made::great, x -> x.sheet(0, 0, -1), -14);
        Edge.refused("sheet(3, 2, least)", Made::great, x -> x.sheet(3, 2, Integer.MIN_VALUE), -14);
        Edge.refused("sheet(4, 0, -1): BAD is ahead", Made::great, x -> x.sheet(4, 0, -1), BAD);
        Edge.refused("sheet(0, 3, -1): BAD is ahead", Made::great, x -> x.sheet(0, 3, -1), BAD);
        Edge.refused("sheet(0, 0, 41)", Made::great, x -> x.sheet(0, 0, 41), BAD);
        Edge.refused("lay(3, 0, 1)", Made::great, x -> x.lay(3, 0, 1), -11);
        Edge.refused("lay(3, -1, 1): NULL is found first", Made::great, x -> x.lay(3, -1, 1), -11);
        Edge.refused("lay(2, 4, 1)", Made::great, x -> x.lay(2, 4, 1), -12);
        Edge.refused("lay(2, -1, 1)", Made::great, x -> x.lay(2, -1, 1), -12);
        Edge.refused("lay(4, -1, 1): BAD is ahead", Made::great, x -> x.lay(4, -1, 1), BAD);
    }

    /** "Then none came", and torn() is of the one that came to an end before. */
    private static void readRefused() {
        Edge.refused("the second one is the 11th vow", Made::great, x -> x.read(0, 0, 0, 2), -21);
        Edge.refused("the first one is the 11th vow", Made::full, x -> x.read(0, 0, 0, 1), -20);
        Supplier<VowTerrace> third = () -> {
            VowTerrace x = Made.great();
            x.drop(0, 0);
            x.lay(0, 9, 5);
            return x;
        };
        Edge.refused("the third one is BAD", third, x -> x.read(0, 0, 0, 10), -22);
        Supplier<VowTerrace> tenth = () -> {
            VowTerrace x = Made.great();
            x.drop(0, 0);
            x.lay(0, 39, 5);
            return x;
        };
        Edge.refused("the tenth one is BAD", tenth, x -> x.read(0, 0, 0, 10), -29);
        Edge.refused("the tenth one is BAD and the 11th vow", () -> {
            VowTerrace x = tenth.get();
            x.vows(0, 0, 0, 0);
            return x;
        }, x -> x.read(0, 0, 0, 10), -29);
    }

    /** A refused text changes THE TAPE and fault() alone. */
    private static void texts() {
        String[] wrong = {"!", "row", "row 1;", "row 2;row 2;", "deed0;deed0;deed0;deed0;deed0;deed0;", "row 2;lawyer 2;"};
        for (int fault = 1; fault <= wrong.length; fault++) {
            String text = wrong[fault - 1];
            Edge.changesNothing("'" + text + "'", RefusedTest::toldFaultOne, x -> tellWrong(x, text));
            VowTerrace x = Made.great();
            x.end(0);
            Due.feed(x, text);
            String before = State.of(x);
            Due.is("text() of '" + text + "' is refused", x.text() <= -10 ? 1 : 0, 1);
            Due.is("fault() of '" + text + "'", x.fault(), fault);
            Due.is("THE TAPE is empty then", x.count(4), 0);
            Due.is("all as it was behind '" + text + "'", State.of(x).equals(before) ? 1 : 0, 1);
        }
    }

    private static VowTerrace toldFaultOne() {
        VowTerrace x = Made.great();
        x.end(0);
        x.feed('!');
        x.text();
        return x;
    }

    /** A wrong text, then again one with FAULT 1, so that fault() is as the twin's. */
    private static long tellWrong(VowTerrace x, String text) {
        Due.feed(x, text);
        x.text();
        x.feed('!');
        return x.text();
    }

    private static void asksAlone() {
        List<Edge.Call> asks = List.of(
            x -> x.fault(), x -> x.rule(0), x -> x.rule(8), x -> x.house(0, 0), x -> x.house(1, 1), x -> x.cost(0),
            x -> x.vow(0, 0), x -> x.want(0, 0), x -> x.ahead(0, 0, 60), x -> x.ahead(1, 0, 1), x -> x.rest(),
            x -> x.plan(0), x -> x.plan(10), x -> x.who(1, 0, 4), x -> x.ways(1, 0, 0), x -> x.ways(1, 0, 1),
            x -> x.ever(), x -> x.stop(0), x -> x.stop(1), x -> x.best(20, 0), x -> x.best(1, 1), x -> x.mean(0, 0),
            x -> x.mean(1, 1), x -> x.luck(0, 0), x -> x.luck(1, 1), x -> x.drift(7, 60, 0), x -> x.drift(-7, 1, 1),
            x -> x.torn(), x -> x.count(0), x -> x.count(5), x -> x.go(0), x -> x.lay(3, 0, 0));
        List<Supplier<VowTerrace>> all = List.of(Made::fresh, Made::small, Made::great, Made::full, Made::lastDay);
        for (int made = 0; made < all.size(); made++) {
            for (int i = 0; i < asks.size(); i++) {
                Edge.changesNothing("terrace " + made + " ask " + i, all.get(made), asks.get(i));
            }
        }
    }
}
