/** Terraces from the least to the greatest, on which the edges of the calls are tried. */
final class Made {
    /** A taken text of 14 bytes that waits on THE TAPE. */
    private static final String WAITING = "ring 5;deed 7;";

    private Made() {
    }

    static VowTerrace fresh() {
        return new VowTerrace();
    }

    /** Two HOUSES, one DEED, one VOW, one WANT, IMAGE 0 alone, SHEET 1 alone, 4 bytes on THE TAPE. */
    static VowTerrace small() {
        VowTerrace x = new VowTerrace();
        Due.feed(x, "row 2;deed 5;house 1 5 0;vow 0 plain 3 0;want 1 0;");
        x.text();
        x.keep(0);
        x.fund(0, 1);
        x.sheet(1, 1, 4);
        x.lay(1, 2, 1);
        Due.feed(x, "ring");
        return x;
    }

    /** Seven HOUSES, all DEEDS, room for one VOW and one WANT, both IMAGES, SHEETS of each lane and one of nothing. */
    static VowTerrace great() {
        VowTerrace x = new VowTerrace();
        Due.feed(x, "ring 7;deed 9;deed 0;deed 2;deed 3;deed 4;house 0 99 0 1 2 3 4;house 6 50 4 0;lawyer 3;habit 0 joint 4 10;habit 6 plain 1 3;");
        x.text();
        x.vows(6, 0, 0, 1);
        x.vows(6, 0, 0, 0);
        x.vows(2, 0, 9, 0);
        x.vows(1, 0, 2, 2);
        x.keep(0);
        x.go(2);
        x.wish(0, 0);
        x.keep(1);
        x.drop(0, 0);
        for (int i = 0; i < 9; i++) {
            x.vows(i % 7, i % 5, i % 4 == 3 ? 9 : i % 4, i % 5);
        }
        x.wish(6, 4);
        x.wish(6, 0);
        laySheets(x);
        x.feed('!');
        x.text();
        x.read(3, 0, 0, 1);
        Due.feed(x, WAITING);
        return x;
    }

    private static void laySheets(VowTerrace x) {
        x.sheet(0, 0, 40);
        x.sheet(1, 1, 8);
        x.sheet(2, 2, 4);
        for (int i = 0; i < 40; i += 3) {
            x.lay(0, i, 1);
        }
        x.lay(1, 0, 2);
        x.lay(1, 7, 3);
        x.lay(2, 1, 4);
    }

    /** As the great one, with ten VOWS and four WANTS. */
    static VowTerrace full() {
        VowTerrace x = great();
        x.vows(3, 3, 3, 3);
        x.wish(0, 3);
        return x;
    }

    /** THE TAPE holds 160 bytes, a text that is taken. */
    static VowTerrace tapeFull() {
        VowTerrace x = new VowTerrace();
        Due.feed(x, WAITING);
        for (int i = WAITING.length(); i < 160; i++) {
            x.feed(32);
        }
        return x;
    }

    /** No DAY more can go. */
    static VowTerrace lastDay() {
        VowTerrace x = small();
        for (int i = 0; i < 16; i++) {
            x.go(60);
        }
        x.go(39);
        x.vows(0, 0, 0, 0);
        return x;
    }
}
