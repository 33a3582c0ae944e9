import java.util.Random;

/** No call throws, for any arguments in any state; what is refused changes nothing. */
public final class AnyCallTest {
    private static final int[] EDGES = {Integer.MIN_VALUE, -2, -1, 0, 1, 2, 3, 4, 5, 6, 7, 8, 9, 10, 11, 12, 20, 40, 41, 60, 61, 99, 100, 159, 160, 161, Integer.MAX_VALUE};
    private static final String[] WORDS = {"row ", "ring ", "deed ", "house ", "lawyer ", "habit ", "vow ", "want ", "plain ", "left ", "drunk ", "joint ", "threat ", "0 ", "1 ", "2 ", "3", "9", "12 ", "100", ";", ";", ";", "!", " ", "row 5;", "deed 1;", "deed 0;", "vow 0 joint 9 0;", "want 1 0;"};

    public static void main(String[] args) {
        for (int seed = 0; seed < 400; seed++) {
            Random r = new Random(seed);
            VowTerrace x = new VowTerrace();
            if (r.nextBoolean()) {
                Due.tell(x, r.nextBoolean() ? "ring 2;deed 1;deed 0;" : "row 7;deed 0;deed 1;deed 2;deed 3;deed 9;");
            }
            for (int i = 0; i < 512; i++) {
                step(seed, i, x, r);
            }
        }
        Due.finish("AnyCallTest");
    }

    private static void step(int seed, int i, VowTerrace x, Random r) {
        String before = State.of(x);
        int tape = x.count(4);
        int fault = x.fault();
        int call = r.nextInt(37);
        long answer = call(call, x, r);
        String place = "seed " + seed + " step " + i + " call " + call;
        boolean asks = call >= 16 && call <= 26 || call == 35 || call == 36;
        if (answer < 0 || asks) {
            Due.is(place + ": nothing changed", State.of(x).equals(before) ? 1 : 0, 1);
            if (call != 2) {
                Due.is(place + ": fault as it was", x.fault(), fault);
            }
            if (call > 3) {
                Due.is(place + ": tape as it was", x.count(4), tape);
            }
        }
    }

    private static int any(Random r) {
        return r.nextInt(3) == 0 ? EDGES[r.nextInt(EDGES.length)] : r.nextInt(6);
    }

    private static int feedWords(VowTerrace x, Random r) {
        Due.feed(x, WORDS[r.nextInt(WORDS.length)]);
        return 0;
    }

    private static long call(int call, VowTerrace x, Random r) {
        int a = any(r);
        int b = any(r);
        int c = any(r);
        int d = any(r);
        switch (call) {
            case 0: return x.feed(a);
            case 1: return x.end(a);
            case 2: return r.nextInt(8) == 0 ? x.text() : feedWords(x, r);
            case 3: return feedWords(x, r);
            case 4: return x.rule(a);
            case 5: return x.house(a, b);
            case 6: return x.cost(a);
            case 7: return x.vow(a, b);
            case 8: return x.want(a, b);
            case 9: return x.fund(a, b);
            case 10: return x.can(a, b, r.nextBoolean());
            case 11: return x.lawyer(a, r.nextBoolean());
            case 12: return x.habit(a, b, c, d);
            case 13: return x.vows(a, b, c, d);
            case 14: return x.wish(a, b);
            case 15: return x.move(a, b);
            case 16: return x.ahead(a, b, c);
            case 17: return x.rest();
            case 18: return x.plan(a);
            case 19: return x.who(a, b, c);
            case 20: return x.ways(a, b, c);
            case 21: return x.ever();
            case 22: return x.stop(a);
            case 23: return x.best(a, b);
            case 24: return x.mean(a, b);
            case 25: return x.luck(a, b);
            case 26: return x.drift(a, b, c);
            case 27: return x.go(a);
            case 28: return x.drop(a, b);
            case 29: return x.keep(a);
            case 30: return x.back(a);
            case 31: return x.sheet(a, b, c);
            case 32: return x.lay(a, b, c);
            case 33: return x.read(a, b, c, d);
            case 34: return x.sheet(r.nextInt(4), r.nextInt(3), r.nextInt(41));
            case 35: return x.torn();
            default: return x.count(a);
        }
    }
}
