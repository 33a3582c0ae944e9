/** Promise 1: a new object. */
public final class ObjectTest {
    public static void main(String[] args) {
        VowTerrace x = new VowTerrace();
        Due.is("rule(0)", x.rule(0), 3);
        for (int what = 1; what <= 8; what++) {
            Due.is("rule(" + what + ")", x.rule(what), 0);
        }
        for (int h = 0; h < 3; h++) {
            for (int what = 0; what <= 5; what++) {
                Due.is("house(" + h + ", " + what + ")", x.house(h, what), 0);
            }
            Due.is("house(h, 10)", x.house(h, 10), VowTerrace.BAD);
        }
        for (int k = 0; k < 4; k++) {
            Due.is("lay(" + k + ", 0, 0)", x.lay(k, 0, 0), -11);
        }
        Due.is("fault()", x.fault(), 0);
        Due.is("torn()", x.torn(), 0);
        int[] counts = {0, 0, 0, 0, 0, VowTerrace.NONE, 0};
        for (int what = 0; what < counts.length; what++) {
            Due.is("count(" + what + ")", x.count(what), counts[what]);
        }
        Due.finish("ObjectTest");
    }
}
