/** Promises 25 and 26: ever, stop. */
public final class EverTest {
    public static void main(String[] args) {
        ever();
        stop();
        leastSet();
        Due.finish("EverTest");
    }

    private static void ever() {
        VowTerrace x = Due.told("row 4;deed 0;");
        Due.is("ever()", x.ever(), 0);
        x.vows(0, 0, 9, 0);
        x.vows(3, 3, 9, 0);
        x.vows(3, 1, 9, 0);
        x.vows(0, 2, 9, 0);
        x.vows(0, 3, 3, 0);
        x.vows(0, 3, 9, 0);
        Due.is("ever(): joint alone in a row", x.ever(), 2 + 32);
        x.lawyer(2, true);
        Due.is("ever(): 3 falls on the lawyer and the sea", x.ever(), 32);
        x.lawyer(1, true);
        Due.is("ever()", x.ever(), 0);
        VowTerrace ring = Due.told("ring 4;deed 0;vow 0 plain 9 0;vow 0 threat 9 0;vow 1 left 9 0;vow 0 drunk 9 0;vow 1 drunk 9 0;vow 0 plain 3 0;");
        Due.is("ever()", ring.ever(), 31);
        ring.lawyer(0, true);
        Due.is("ever(): drunk walks by", ring.ever(), 16);
    }

    private static void stop() {
        VowTerrace x = Due.told("ring 6;deed 0;");
        Due.is("stop(0)", x.stop(0), 0);
        Due.is("stop(1)", x.stop(1), 0);
        x.vows(3, 0, 9, 0);
        Due.is("stop(0)", x.stop(0), 1);
        Due.is("stop(1)", x.stop(1), 1);
        x.vows(3, 2, 9, 0);
        Due.is("stop(0)", x.stop(0), 1);
        Due.is("stop(1)", x.stop(1), 2);
        x.vows(2, 2, 9, 0);
        Due.is("stop(0)", x.stop(0), 2);
        Due.is("stop(1)", x.stop(1), 3);
        x.lawyer(0, true);
        Due.is("stop(0): one is there", x.stop(0), 1);
        Due.is("stop(1)", x.stop(1), 2);
        Due.is("house(1, 2): nothing changed", x.house(1, 2), 0);
        for (int wrong : new int[] {-1, 2, Integer.MIN_VALUE, Integer.MAX_VALUE}) {
            Due.is("stop(" + wrong + ")", x.stop(wrong), VowTerrace.BAD);
        }
    }

    private static void leastSet() {
        // joint from 0 in a ring of 4: no two houses beside one another may be left that it comes to;
        // lawyers in 1 and 3 shut it in
        VowTerrace x = Due.told("ring 4;deed 0;vow 0 joint 9 0;");
        Due.is("stop(0)", x.stop(0), 2);
        Due.is("stop(1)", x.stop(1), 5);
        // in a row of 5 from 0: who shuts it in lives in 1
        VowTerrace y = Due.told("row 5;deed 0;vow 0 joint 9 0;");
        Due.is("stop(0)", y.stop(0), 1);
        Due.is("stop(1)", y.stop(1), 2);
        y.vows(3, 3, 9, 0);
        Due.is("stop(0)", y.stop(0), 2);
        // 1 and 3: from 3 it falls on 2 and 4, and from there on lawyers
        Due.is("stop(1)", y.stop(1), 10);
        VowTerrace two = Due.told("ring 2;deed 0;vow 1 drunk 9 0;");
        Due.is("stop(1)", two.stop(1), 2);
    }
}
