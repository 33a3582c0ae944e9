/** Promises 2 to 5: feed, end, text, fault. */
public final class TextTest {
    public static void main(String[] args) {
        feedAndEnd();
        whatATextTells();
        emptyTextsAndBlanks();
        noTokens();
        misplaced();
        outOfBounds();
        toldTwice();
        tooMany();
        notThere();
        firstFaultMet();
        faultIsOfTheLatest();
        Due.finish("TextTest");
    }

    private static void feedAndEnd() {
        VowTerrace x = new VowTerrace();
        Due.is("feed(-1)", x.feed(-1), VowTerrace.BAD);
        Due.is("feed(128)", x.feed(128), VowTerrace.BAD);
        Due.is("feed(0)", x.feed(0), 1);
        Due.is("feed(127)", x.feed(127), 2);
        Due.is("end(3)", x.end(3), VowTerrace.BAD);
        Due.is("end(-1)", x.end(-1), VowTerrace.BAD);
        Due.is("end(2)", x.end(2), 2);
        Due.is("end(1)", x.end(1), 2);
        Due.is("end(0)", x.end(0), 1);
        Due.is("end(0)", x.end(0), 0);
        for (int i = 1; i <= 160; i++) {
            Due.is("feed(32)", x.feed(32), i);
        }
        Due.is("feed(32) on a full tape", x.feed(32), VowTerrace.FULL);
        Due.is("feed(200) on a full tape", x.feed(200), VowTerrace.BAD);
        Due.is("count(4)", x.count(4), 160);
        Due.is("end(159)", x.end(159), 160);
        Due.is("feed(59)", x.feed(59), 160);
        Due.is("text()", x.text(), -10 - 159);
        Due.is("fault()", x.fault(), 2);
        Due.feed(x, "ring 4;x");
        Due.is("end(7)", x.end(7), 8);
        Due.is("text()", x.text(), 1);
        Due.is("rule(0)", x.rule(0), 4);
    }

    private static void whatATextTells() {
        VowTerrace x = Due.told("ring 6;deed 3;deed 0;deed 9;house 5 42 2 0;lawyer 4;habit 3 drunk 1 10;");
        Due.is("rule(0)", x.rule(0), 6);
        Due.is("rule(1)", x.rule(1), 1);
        Due.is("rule(2)", x.rule(2), 3);
        Due.is("cost(0)", x.cost(0), 3);
        Due.is("cost(1)", x.cost(1), 0);
        Due.is("cost(2)", x.cost(2), 9);
        Due.is("house(5, 0)", x.house(5, 0), 42);
        Due.is("house(5, 1)", x.house(5, 1), 5);
        Due.is("house(4, 2)", x.house(4, 2), 1);
        Due.is("house(5, 2)", x.house(5, 2), 0);
        Due.is("house(3, 3)", x.house(3, 3), 2);
        Due.is("house(3, 4)", x.house(3, 4), 1);
        Due.is("house(3, 5)", x.house(3, 5), 10);
        Due.tell(x, "deed 1;vow 0 plain 0 0;vow 1 left 1 0;vow 2 drunk 2 0;vow 0 joint 3 0;vow 1 threat 9 0;want 2 0;want 1 0;want 2 0;");
        Due.is("rule(0)", x.rule(0), 3);
        Due.is("rule(1)", x.rule(1), 0);
        Due.is("rule(2)", x.rule(2), 1);
        int[][] vows = {{0, 0, 0, 0}, {1, 1, 1, 0}, {2, 2, 2, 0}, {0, 3, 3, 0}, {1, 4, 9, 0}};
        for (int i = 0; i < vows.length; i++) {
            for (int what = 0; what < 4; what++) {
                Due.is("vow(" + i + ", " + what + ")", x.vow(i, what), vows[i][what]);
            }
        }
        Due.is("rule(4)", x.rule(4), 3);
        Due.is("want(0, 0)", x.want(0, 0), 2);
        Due.is("want(1, 0)", x.want(1, 0), 1);
        allInPlaceOfWhatWas();
    }

    private static void allInPlaceOfWhatWas() {
        VowTerrace x = Due.told("ring 2;deed 0;house 0 9 0;house 1 8 0;lawyer 1;habit 0 joint 0 5;vow 1 plain 0 0;vow 0 plain 0 0;want 0 0;");
        x.sheet(0, 1, 3);
        x.keep(0);
        x.keep(1);
        Due.is("go(1)", x.go(1), 1);
        Due.is("rule(7)", x.rule(7), 1);
        Due.tell(x, "deed 2;");
        Due.is("count(3): images are gone", x.count(3), 0);
        Due.is("back(0)", x.back(0), VowTerrace.STATE);
        for (int h = 0; h < 3; h++) {
            for (int what : new int[] {0, 1, 2, 3, 4, 5, 10}) {
                Due.is("house(" + h + ", " + what + ")", x.house(h, what), 0);
            }
        }
        for (int what = 3; what <= 8; what++) {
            Due.is("rule(" + what + ")", x.rule(what), 0);
        }
        Due.is("count(5): the sheet stays", x.count(5), 3);
        VowTerrace fresh = Due.told("deed 2;");
        fresh.sheet(0, 1, 3);
        Due.is("all as in a new one", State.of(x).equals(State.of(fresh)) ? 1 : 0, 1);
    }

    private static void emptyTextsAndBlanks() {
        VowTerrace x = Due.told("ring 4;deed 1;");
        x.keep(0);
        Due.tell(x, "");
        Due.is("rule(0)", x.rule(0), 3);
        Due.is("rule(2)", x.rule(2), 0);
        Due.is("count(3)", x.count(3), 0);
        Due.tell(x, "   ");
        Due.tell(x, "  row   5  ;deed2;deed03 ;house1 05 0 1;vow0plain9 1;  ");
        Due.is("rule(0)", x.rule(0), 5);
        Due.is("cost(1)", x.cost(1), 3);
        Due.is("house(1, 0)", x.house(1, 0), 5);
        Due.is("vow(0, 2)", x.vow(0, 2), 9);
    }

    private static void noTokens() {
        Due.refused("row 3;A", 1, 6);
        Due.refused("\t", 1, 0);
        Due.refused("deed -1;", 1, 5);
        Due.refused("deed 1;.", 1, 7);
        Due.refused("deed 123;", 1, 5);
        Due.refused("deed 0001;", 1, 5);
        Due.refused("row 3!;", 1, 5);
        Due.refused("roW 3;", 2, 0);
        Due.refused("vow 0 plain! 0 0;", 1, 11);
    }

    private static void misplaced() {
        Due.refused(";", 2, 0);
        Due.refused("row 3;;", 2, 6);
        Due.refused("3;", 2, 0);
        Due.refused("rows 3;", 2, 0);
        Due.refused("ro 3;", 2, 0);
        Due.refused("plain 3;", 2, 0);
        Due.refused("row;", 2, 3);
        Due.refused("row x;", 2, 4);
        Due.refused("row 3 4;", 2, 6);
        Due.refused("row 3", 2, 5);
        Due.refused("row 3   ", 2, 8);
        Due.refused("row", 2, 3);
        Due.refused("house 0;", 2, 7);
        Due.refused("house 0 1 x;", 2, 10);
        Due.refused("house 0 1 ", 2, 10);
        Due.refused("lawyer 1 2;", 2, 9);
        Due.refused("habit 0 row 0 0;", 2, 8);
        Due.refused("habit 0 3 0 0;", 2, 8);
        Due.refused("habit 0 plain 0;", 2, 15);
        Due.refused("vow 0 plainly 0 0;", 2, 6);
        Due.refused("vow 0 plain 0 0 0;", 2, 16);
        Due.refused("vow 0 plain", 2, 11);
        Due.refused("want 0;", 2, 6);
        Due.refused("want 0 0 0;", 2, 9);
    }

    private static void outOfBounds() {
        Due.refused("row 1;", 3, 4);
        Due.refused("row 8;", 3, 4);
        Due.refused("ring 0;", 3, 5);
        Due.refused("ring 10;", 3, 5);
        Due.refused("deed 10;", 3, 5);
        Due.refused("house 7 0;", 3, 6);
        Due.refused("house 0 0 5;", 3, 10);
        Due.refused("lawyer 7;", 3, 7);
        Due.refused("habit 7 plain 0 0;", 3, 6);
        Due.refused("habit 0 plain 5 0;", 3, 14);
        Due.refused("habit 0 plain 0 11;", 3, 16);
        Due.refused("vow 7 plain 0 0;", 3, 4);
        for (int deep = 4; deep <= 8; deep++) {
            Due.refused("vow 0 plain " + deep + " 0;", 3, 12);
        }
        Due.refused("vow 0 plain 10 0;", 3, 12);
        Due.refused("vow 0 plain 0 5;", 3, 14);
        Due.refused("want 7 0;", 3, 5);
        Due.refused("want 0 5;", 3, 7);
        VowTerrace x = Due.told("row 7;deed 9;deed 0;house 6 99 1;habit 6 threat 1 10;vow 6 joint 9 1;");
        Due.is("house(6, 0)", x.house(6, 0), 99);
        Due.tell(x, "row 2;");
    }

    private static void toldTwice() {
        Due.refused("row 3;row 3;", 4, 6);
        Due.refused("ring 3;ring 3;", 4, 7);
        Due.refused("ring 3;  row 9;", 4, 9);
        Due.refused("house 1 0;house 1 0;", 4, 16);
        Due.refused("lawyer 1;lawyer 1;", 4, 16);
        Due.refused("deed 0;habit 1 left 0 0;habit 1 left 0 0;", 4, 30);
        Due.refused("deed 0;house 1 1 0 0;", 4, 19);
        Due.refused("deed 0;deed 0;house 1 1 0 1 0;", 4, 28);
        Due.refused("house 1 0;house 01 0;", 4, 16);
        Due.told("deed 0;house 1 0 0;lawyer 1;habit 1 plain 0 1;house 2 0 0;");
    }

    private static void tooMany() {
        Due.refused("deed 1;deed 1;deed 1;deed 1;deed 1;deed 99;", 5, 35);
        Due.refused("deed 1;want 0 0;want 0 0;want 0 0;want 0 0;want x", 5, 43);
        StringBuilder vows = new StringBuilder("deed0;");
        for (int i = 0; i < 10; i++) {
            vows.append("vow0left0 0;");
        }
        VowTerrace x = Due.told(vows.toString());
        Due.is("rule(3)", x.rule(3), 10);
        Due.refused(vows + "vow", 5, 126);
    }

    private static void notThere() {
        Due.refused("house 3 0;", 6, 10);
        Due.refused("row 2;lawyer 2;", 6, 15);
        Due.refused("lawyer 5;row 5; ", 6, 16);
        Due.refused("habit 0 plain 0 0;", 6, 18);
        Due.refused("deed 1;habit 3 plain 0 0;", 6, 25);
        Due.refused("deed 1;vow 3 plain 0 0;", 6, 23);
        Due.refused("deed 1;vow 0 plain 0 1;", 6, 23);
        Due.refused("deed 1;want 3 0;", 6, 16);
        Due.refused("deed 1;want 0 1;", 6, 16);
        Due.refused("house 0 0 4;deed 1;", 6, 19);
        Due.told("house 6 1 1;want 5 1;row 7;deed 0;deed 1;");
    }

    private static void firstFaultMet() {
        // what stands behind a wrong token has not been read
        Due.refused("row 9!;", 3, 4);
        Due.refused("row x!", 2, 4);
        Due.refused("house 1 0;house 1!", 4, 16);
        Due.refused("row 3;row!", 4, 6);
        Due.refused("lawyer 6;x", 2, 9);
        Due.refused("lawyer 6;lawyer 6;", 4, 16);
        // a number that is too long is no token before it is misplaced
        Due.refused("123;", 1, 0);
        Due.refused("row 3 123;", 1, 6);
    }

    private static void faultIsOfTheLatest() {
        VowTerrace x = new VowTerrace();
        Due.feed(x, "!");
        Due.is("fault() ahead of text()", x.fault(), 0);
        Due.is("text()", x.text(), -10);
        Due.is("fault()", x.fault(), 1);
        Due.is("feed(114)", x.feed(114), 1);
        Due.is("fault() stays", x.fault(), 1);
        Due.is("text()", x.text(), -10);
        Due.is("fault()", x.fault(), 2);
        Due.is("text()", x.text(), 0);
        Due.is("fault()", x.fault(), 0);
    }
}
