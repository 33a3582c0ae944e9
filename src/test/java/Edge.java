import java.util.function.IntPredicate;
import java.util.function.Supplier;

/** Which numbers a call takes, and that what it refuses changes nothing. */
final class Edge {
    /** A call with one number left open. */
    interface Ask {
        long of(VowTerrace x, int v);
    }

    interface Call {
        long on(VowTerrace x);
    }

    private static final int LEAST = Integer.MIN_VALUE, MOST = Integer.MAX_VALUE;
    private static final int[] FAR = {LEAST, LEAST + 1, LEAST + 9, LEAST + 10, LEAST + 11, -65536, -257, -256, -255, -128, 255, 256, 257, 65535, 65536, 1 << 30, MOST - 11, MOST - 10, MOST - 9, MOST - 3, MOST - 1, MOST};
    private static final int NEAR_LEAST = -30, NEAR_MOST = 170;
    private static final int PARTS = 8;

    private Edge() {
    }

    static IntPredicate range(int least, int most) {
        return v -> least <= v && v <= most;
    }

    /** The numbers that are taken, and no others; the last ones on each side that are refused change nothing. */
    static void takes(String call, Supplier<VowTerrace> made, Ask ask, IntPredicate taken, long refusal) {
        for (int v = NEAR_LEAST; v <= NEAR_MOST; v++) {
            boolean beside = taken.test(v - 1) || taken.test(v + 1) || v == -1;
            one(call, made, ask, v, taken.test(v), refusal, beside);
        }
        for (int v : FAR) {
            one(call, made, ask, v, taken.test(v), refusal, v == LEAST || v == MOST);
        }
    }

    static void takes(String call, Supplier<VowTerrace> made, Ask ask, int least, int most) {
        takes(call, made, ask, range(least, most), VowTerrace.BAD);
    }

    private static void one(String call, Supplier<VowTerrace> made, Ask ask, int v, boolean is, long refusal, boolean twins) {
        String told = call + " by " + v;
        if (is) {
            Due.is(told + " is refused", ask.of(made.get(), v) == refusal ? 1 : 0, 0);
        } else if (twins) {
            refused(told, made, x -> ask.of(x, v), refusal);
        } else {
            Due.is(told, ask.of(made.get(), v), refusal);
        }
    }

    static void refused(String call, Supplier<VowTerrace> made, Call refusedCall, long due) {
        Due.is(call, refusedCall.on(made.get()), due);
        changesNothing(call, made, refusedCall);
    }

    /** All that can be asked of an object is alike with the call and without it. */
    static void changesNothing(String call, Supplier<VowTerrace> made, Call tried) {
        for (int part = 0; part < PARTS; part++) {
            VowTerrace with = made.get();
            tried.on(with);
            String got = probe(with, part);
            String due = probe(made.get(), part);
            Due.is(call + " leaves part " + part + " as it was: " + difference(got, due), got.equals(due) ? 1 : 0, 1);
        }
    }

    private static String difference(String got, String due) {
        return got.equals(due) ? "" : "[" + got + "] for [" + due + "]";
    }

    /** In parts, each on an object of its own: no object is asked more often than 512 times. */
    private static String probe(VowTerrace x, int part) {
        switch (part) {
            case 0: return State.of(x) + " " + x.fault() + " " + x.count(4);
            case 1: return x.text() + " " + x.fault() + " " + State.of(x);
            case 2: return x.back(0) + " " + State.of(x);
            case 3: return x.back(1) + " " + State.of(x);
            default: return sheet(x, part - 4);
        }
    }

    private static String sheet(VowTerrace x, int k) {
        StringBuilder s = new StringBuilder();
        x.drop(0, 0);
        for (int lane = 0; lane < 3; lane++) {
            s.append(x.read(k, lane, 0, 0)).append(' ').append(x.torn()).append("; ");
            for (int f = 0; f < 40 && x.read(k, lane, f, 1) == 1; f += 4) {
                for (int what = 0; what < 4; what++) {
                    s.append(x.vow(0, what)).append(' ');
                }
                x.drop(0, 0);
            }
            s.append(x.torn()).append("; ");
        }
        int cells = 40;
        while (cells > 0 && x.lay(k, cells - 1, 0) != 1) {
            cells--;
        }
        return s.append(cells).toString();
    }
}
