/** All of an object that can be asked for without a change, as one text. */
final class State {
    private State() {
    }

    static String of(VowTerrace x) {
        StringBuilder s = new StringBuilder();
        for (int what = 0; what <= 8; what++) {
            s.append(x.rule(what)).append(' ');
        }
        for (int h = 0; h < 7; h++) {
            for (int what = 0; what < 15; what++) {
                s.append(x.house(h, what)).append(' ');
            }
        }
        for (int d = 0; d < 5; d++) {
            s.append(x.cost(d)).append(' ');
        }
        for (int i = 0; i < 10; i++) {
            for (int what = 0; what < 4; what++) {
                s.append(x.vow(i, what)).append(' ');
            }
        }
        for (int i = 0; i < 4; i++) {
            s.append(x.want(i, 0)).append(' ').append(x.want(i, 1)).append(' ');
        }
        for (int what = 0; what <= 6; what++) {
            // THE TAPE (4) may change where all else stays
            s.append(what == 4 ? 0 : x.count(what)).append(' ');
        }
        return s.append(x.torn()).toString();
    }
}
