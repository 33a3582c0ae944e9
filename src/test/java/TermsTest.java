/** Terms, part 1: how many there may be of each, where the last ones are, what is there at first. */
public final class TermsTest {
    private static final int BAD = VowTerrace.BAD, FULL = VowTerrace.FULL;
    private static final String[] KINDS = {"plain", "left", "drunk", "joint", "threat"};

    public static void main(String[] args) {
        houses();
        deedsAndCosts();
        purses();
        whatItCan();
        moves();
        lawyersAndHabits();
        vowsAndWants();
        tape();
        inPlaceOfWhatWas();
        askedBetweenTexts();
        Due.finish("TermsTest");
    }

    /** Two to seven, in a row and in a ring; three in a row at first. */
    private static void houses() {
        VowTerrace first = new VowTerrace();
        Due.is("rule(0) at first", first.rule(0), 3);
        Due.is("rule(1) at first", first.rule(1), 0);
        for (String shape : new String[] {"row", "ring"}) {
            int place = shape.length() + 1;
            for (int n = 0; n <= 99; n++) {
                if (n < 2 || n > 7) {
                    Due.refused(shape + " " + n + ";", 3, place);
                }
            }
            for (int n = 2; n <= 7; n++) {
                VowTerrace x = Due.told(shape + " " + n + ";");
                Due.is("rule(0)", x.rule(0), n);
                Due.is("rule(1)", x.rule(1), shape.equals("ring") ? 1 : 0);
                Due.is("house(last, 0)", x.house(n - 1, 0), 0);
                Due.is("house(n, 0)", x.house(n, 0), BAD);
                String last = shape + " " + n + ";lawyer " + (n - 1) + ";";
                Due.is("lawyer in the last one", Due.told(last).house(n - 1, 2), 1);
                if (n < 7) {
                    String beyond = shape + " " + n + ";lawyer " + n + ";";
                    Due.refused(beyond, 6, beyond.length());
                }
            }
        }
    }

    private static void deedsAndCosts() {
        StringBuilder text = new StringBuilder();
        for (int deeds = 0; deeds <= 5; deeds++) {
            VowTerrace x = Due.told(text.toString());
            Due.is("rule(2)", x.rule(2), deeds);
            for (int d = 0; d < deeds; d++) {
                Due.is("cost(" + d + ")", x.cost(d), 9 - d);
                Due.is("house(0, 10 and d)", x.house(0, 10 + d), 0);
            }
            Due.is("cost(deeds)", x.cost(deeds), BAD);
            Due.is("house(0, 10 and deeds)", x.house(0, 10 + deeds), BAD);
            text.append("deed ").append(9 - deeds).append(';');
        }
        Due.refused(text.toString(), 5, 35);
        for (int cost = 0; cost <= 99; cost++) {
            if (cost <= 9) {
                Due.is("cost(0)", Due.told("deed " + cost + ";").cost(0), cost);
            } else {
                Due.refused("deed " + cost + ";", 3, 5);
            }
        }
    }

    private static void purses() {
        VowTerrace x = new VowTerrace();
        int was = 0;
        for (int v = 0; v <= 99; v++) {
            Due.is("fund(2, " + v + ")", x.fund(2, v), was);
            Due.is("house(2, 0)", x.house(2, 0), v);
            was = v;
        }
        Due.is("fund(2, 100)", x.fund(2, 100), BAD);
        Due.is("fund(2, -1)", x.fund(2, -1), BAD);
        Due.is("house(2, 0)", x.house(2, 0), 99);
        Due.is("house(1, 0): of that house alone", x.house(1, 0), 0);
        Due.is("house 0 99", Due.told("house 0 99;").house(0, 0), 99);
        Due.is("house 0 0", Due.told("house 0 0;").house(0, 0), 0);
        Due.refused("house 0 100;", 1, 8);
    }

    private static void whatItCan() {
        String deeds = "deed0;deed0;deed0;deed0;deed0;";
        Due.is("none", Due.told(deeds + "house 0 1;").house(0, 1), 0);
        Due.is("all", Due.told(deeds + "house 0 1 4 3 2 1 0;").house(0, 1), 31);
        Due.is("the last", Due.told(deeds + "house 0 1 4;").house(0, 1), 16);
        Due.refused(deeds + "house 0 1 5;", 3, 40);
        Due.refused(deeds + "house 0 1 4 3 2 1 0 0;", 4, 50);
        Due.refused(deeds + "house 0 1 4 3 2 1 0 5;", 3, 50);
        VowTerrace x = Due.told(deeds);
        for (int d = 0; d < 5; d++) {
            Due.is("can(2, d, true)", x.can(2, d, true), 0);
            Due.is("can(2, d, true) again", x.can(2, d, true), 1);
            Due.is("house(2, 1)", x.house(2, 1), (2 << d) - 1);
        }
        Due.is("house(1, 1): of that house alone", x.house(1, 1), 0);
        for (int d = 0; d < 5; d++) {
            Due.is("can(2, d, false)", x.can(2, d, false), 1);
            Due.is("can(2, d, false) again", x.can(2, d, false), 0);
            Due.is("house(2, 1)", x.house(2, 1), 31 - ((2 << d) - 1));
        }
    }

    /** move: from none to all DEEDS, from PURSE 0 to 99, from the first HOUSE to the last. */
    private static void moves() {
        VowTerrace x = Due.told("ring 7;deed0;deed0;deed0;deed0;deed0;house 0 99 0 1 2 3 4;");
        Due.is("move(6, 0): all", x.move(6, 0), 5);
        Due.is("house(6, 0)", x.house(6, 0), 99);
        Due.is("house(6, 1)", x.house(6, 1), 31);
        Due.is("house(0, 0)", x.house(0, 0), 0);
        Due.is("house(0, 1)", x.house(0, 1), 0);
        Due.is("move(6, 0): none", x.move(6, 0), 0);
        Due.is("house(0, 1)", x.house(0, 1), 31);
        Due.is("house(0, 0)", x.house(0, 0), 99);
        for (int h = 0; h < 7; h++) {
            Due.is("move(h, h)", x.move(h, h), BAD);
        }
        x.vows(6, 0, 0, 0);
        Due.is("go(1)", x.go(1), 1);
        x.move(0, 6);
        Due.is("house(0, 10): what was DONE stays", x.house(0, 10), 1);
        Due.is("house(6, 10)", x.house(6, 10), 0);
    }

    private static void lawyersAndHabits() {
        VowTerrace x = Due.told("row 7;deed 1;deed 2;deed 3;deed 4;deed 5;lawyer 0;lawyer 1;lawyer 2;lawyer 3;lawyer 4;lawyer 5;lawyer 6;");
        Due.is("count(2)", x.count(2), 7);
        for (int h = 0; h < 7; h++) {
            Due.is("lawyer(h, false)", x.lawyer(h, false), 1);
            Due.is("house(h, 2)", x.house(h, 2), 0);
            Due.is("count(2)", x.count(2), 6 - h);
        }
        for (int odds = 0; odds <= 10; odds++) {
            Due.is("habit(6, 4, 4, odds)", x.habit(6, 4, 4, odds), odds == 0 ? 0 : odds - 1);
            Due.is("house(6, 5)", x.house(6, 5), odds);
        }
        Due.is("habit(6, 4, 4, 11)", x.habit(6, 4, 4, 11), BAD);
        Due.is("habit(6, 4, 4, -1)", x.habit(6, 4, 4, -1), BAD);
        Due.is("house(6, 5)", x.house(6, 5), 10);
        for (int kind = 0; kind < 5; kind++) {
            Due.is("habit(6, kind, kind, 3)", x.habit(6, kind, kind, 3), kind == 0 ? 10 : 3);
            Due.is("house(6, 3)", x.house(6, 3), kind);
            Due.is("house(6, 4)", x.house(6, 4), kind);
            VowTerrace told = Due.told("deed 0;habit 2 " + KINDS[kind] + " 0 10;vow 2 " + KINDS[kind] + " 9 0;");
            Due.is("house(2, 3)", told.house(2, 3), kind);
            Due.is("vow(0, 1)", told.vow(0, 1), kind);
        }
        Due.is("house(5, 5): of that house alone", x.house(5, 5), 0);
        Due.is("odds of 10", Due.told("deed 0;habit 0 plain 0 10;").house(0, 5), 10);
        Due.refused("deed 0;habit 0 plain 0 11;", 3, 23);
    }

    private static void vowsAndWants() {
        for (int deep = 0; deep <= 99; deep++) {
            String text = "deed 0;vow 0 plain " + deep + " 0;";
            if (deep <= 3 || deep == 9) {
                Due.is("vow(0, 2)", Due.told(text).vow(0, 2), deep);
            } else {
                Due.refused(text, 3, 19);
            }
        }
        VowTerrace x = Due.told("deed 0;");
        for (int n = 1; n <= 10; n++) {
            Due.is("vow(n - 1, 0) of fewer", x.vow(n - 1, 0), BAD);
            Due.is("vows", x.vows(n % 3, n % 5, n % 4, 0), n);
            Due.is("rule(3)", x.rule(3), n);
            Due.is("vow(n - 1, 0)", x.vow(n - 1, 0), n % 3);
            Due.is("vow(n - 1, 1)", x.vow(n - 1, 1), n % 5);
            Due.is("vow(n - 1, 2)", x.vow(n - 1, 2), n % 4);
        }
        Due.is("the 11th", x.vows(0, 0, 0, 0), FULL);
        Due.is("vow(10, 0)", x.vow(10, 0), BAD);
        for (int n = 1; n <= 4; n++) {
            Due.is("want(n - 1, 0) of fewer", x.want(n - 1, 0), BAD);
            Due.is("wish", x.wish(n % 3, 0), n);
            Due.is("rule(4)", x.rule(4), n);
            Due.is("want(n - 1, 0)", x.want(n - 1, 0), n % 3);
        }
        Due.is("the 5th", x.wish(0, 0), FULL);
        Due.is("want(4, 0)", x.want(4, 0), BAD);
        Due.is("drop(0, 10): all stay", x.drop(0, 10), 10);
        Due.is("drop(1, 4): all stay", x.drop(1, 4), 4);
        Due.is("rule(3)", x.rule(3), 10);
        Due.is("drop(0, 9)", x.drop(0, 9), 10);
        Due.is("room for one", x.vows(2, 4, 9, 0), 10);
        Due.is("it is the last one", x.vow(9, 2), 9);
        Due.is("drop(1, 3)", x.drop(1, 3), 4);
        Due.is("room for one", x.wish(2, 0), 4);
        Due.is("drop(0, 0)", x.drop(0, 0), 10);
        Due.is("drop(1, 0)", x.drop(1, 0), 4);
        Due.is("drop(0, 0) of none", x.drop(0, 0), 0);
        Due.is("drop(0, 1) of none", x.drop(0, 1), BAD);
        Due.is("drop(1, 1) of none", x.drop(1, 1), BAD);
        Due.is("want 4 times", Due.told("deed 0;want 0 0;want 0 0;want 0 0;want 0 0;").rule(4), 4);
        Due.is("wants are apart from vows", Due.told("deed 0;vow 0 plain 0 0;want 0 0;want 1 0;").rule(3), 1);
    }

    /** 160 bytes, places from 0, empty behind text(). */
    private static void tape() {
        VowTerrace x = new VowTerrace();
        for (int i = 1; i <= 160; i++) {
            Due.is("feed(32)", x.feed(32), i);
            Due.is("count(4)", x.count(4), i);
        }
        Due.is("feed(32)", x.feed(32), FULL);
        Due.is("text() of blanks", x.text(), 0);
        Due.is("count(4)", x.count(4), 0);
        Due.is("end(0) of none", x.end(0), 0);
        Due.is("end(1) of none", x.end(1), BAD);
        Due.is("feed(32) again", x.feed(32), 1);
        // a text of 160 bytes whose last one counts
        String blanks = " ".repeat(153);
        Due.is("rule(0)", Due.told(blanks + "ring 7;").rule(0), 7);
        Due.refused(" ".repeat(154) + "ring 7", 2, 160);
        Due.refused(" ".repeat(159) + "!", 1, 159);
        Due.refused(blanks + "ring 8;", 3, 158);
        Due.refused("!" + " ".repeat(159), 1, 0);
        // the byte behind the 160th does not come
        VowTerrace y = new VowTerrace();
        Due.feed(y, blanks + "ring 7;");
        Due.is("feed('!')", y.feed('!'), FULL);
        Due.is("text()", y.text(), 1);
        // the bytes that end() takes away do not come back
        Due.feed(y, "ring 6;!");
        Due.is("end(7)", y.end(7), 8);
        Due.is("feed(';')", y.feed(' '), 8);
        Due.is("text()", y.text(), 1);
        Due.is("rule(0)", y.rule(0), 6);
    }

    /** "Tells all, in place of what there was": no line of an earlier text counts in a later one. */
    private static void inPlaceOfWhatWas() {
        String all = "ring 4;deed 1;deed 2;house 1 9 0 1;lawyer 1;habit 1 left 1 5;vow 1 plain 2 1;want 1 0;";
        VowTerrace x = Due.told(all);
        String once = State.of(x);
        Due.tell(x, all);
        Due.is("told twice, all is as told once", State.of(x).equals(once) ? 1 : 0, 1);
        Due.tell(x, "");
        Due.is("an empty text: all is as in a new one", State.of(x).equals(State.of(new VowTerrace())) ? 1 : 0, 1);
        Due.tell(x, "deed 0;deed 0;deed 0;deed 0;deed 0;");
        Due.tell(x, "deed 9;");
        Due.is("rule(2)", x.rule(2), 1);
        Due.tell(x, "row 7;lawyer 6;");
        Due.tell(x, "row 2;");
        Due.is("count(2)", x.count(2), 0);
        Due.is("count(1)", x.count(1), 0);
    }

    /** Questions that let days pass by leave no trace in a text that is told then. */
    private static void askedBetweenTexts() {
        String text = "ring 2;deed 0;house 1 0 0;lawyer 0;";
        VowTerrace x = Due.told(text);
        String once = State.of(x);
        x.vows(0, 0, 0, 0);
        x.vows(1, 0, 0, 0);
        x.vows(0, 2, 9, 0);
        x.can(0, 0, true);
        Due.is("ahead(1, 0, 60)", x.ahead(1, 0, 60), 1);
        Due.tell(x, text);
        Due.is("all as told, nothing is DONE", State.of(x).equals(once) ? 1 : 0, 1);
        x.keep(0);
        x.vows(0, 0, 0, 0);
        Due.is("go(3)", x.go(3), 1);
        Due.is("rule(5)", x.rule(5), 3);
        Due.is("count(0)", x.count(0), 1);
        Due.tell(x, text);
        Due.is("all as told, no IMAGE", State.of(x).equals(once) ? 1 : 0, 1);
        Due.is("back(0)", x.back(0), VowTerrace.STATE);
    }
}
