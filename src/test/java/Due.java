/** Compares answers with those that are due, and ends a test with exit code 1 if one was not. */
final class Due {
    private static int wrong = 0;
    private static int asked = 0;

    private Due() {
    }

    static void is(String call, long got, long want) {
        asked++;
        if (got != want) {
            wrong++;
            System.out.println(call + " answered " + got + ", due is " + want);
        }
    }

    static void feed(VowTerrace x, String text) {
        for (int i = 0; i < text.length(); i++) {
            x.feed(text.charAt(i));
        }
    }

    /** A new object that was told a text, which must be taken. */
    static VowTerrace told(String text) {
        VowTerrace x = new VowTerrace();
        tell(x, text);
        return x;
    }

    static void tell(VowTerrace x, String text) {
        feed(x, text);
        long lines = text.chars().filter(c -> c == ';').count();
        is("text() of '" + text + "'", x.text(), lines);
        is("fault() behind '" + text + "'", x.fault(), 0);
    }

    /** A text must be refused, and nothing but THE TAPE change. */
    static void refused(String text, int fault, int place) {
        VowTerrace x = told("ring 4;deed 3;house 2 7 0;vow 1 left 2 0;want 3 0;");
        x.keep(1);
        String before = State.of(x);
        feed(x, text);
        is("text() of '" + text + "'", x.text(), -10 - place);
        is("fault() of '" + text + "'", x.fault(), fault);
        is("count(4) behind '" + text + "'", x.count(4), 0);
        is("state as it was behind '" + text + "'", State.of(x).equals(before) ? 1 : 0, 1);
    }

    static void finish(String name) {
        System.out.println(name + ": " + asked + " answers, " + wrong + " not as due");
        if (wrong != 0) {
            System.exit(1);
        }
    }
}
