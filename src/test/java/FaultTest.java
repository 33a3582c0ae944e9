import java.util.List;

/** Promises 4 and 5: each FAULT at each place of each line, with what is last taken and first refused. */
public final class FaultTest {
    private static final String[] KINDS = {"plain", "left", "drunk", "joint", "threat"};
    private static final String KIND = "K";
    /** A line: its NAME, then for each TOKEN the NUMBERS that may stand there, or KIND. */
    private static final String[][] LINES = {
        {"row", "2-7"}, {"ring", "2-7"}, {"deed", "0-9"}, {"house", "0-6", "0-99"}, {"lawyer", "0-6"},
        {"habit", "0-6", KIND, "0-4", "0-10"}, {"vow", "0-6", KIND, "0-3 9-9", "0-4"}, {"want", "0-6", "0-4"}};
    private static final String[] AHEAD = {"deed 0;", "  deed   0  ;  "};

    public static void main(String[] args) {
        for (String[] line : LINES) {
            for (int i = 0; i <= line.length; i++) {
                for (String ahead : AHEAD) {
                    tokenAt(ahead + begun(line, i, " "), line, i);
                    tokenAt(ahead + begun(line, i, "   "), line, i);
                }
            }
        }
        bytesOfNames();
        namesThatBeginNoLine();
        asLongAsMayBe();
        moreThatItCan();
        toldTwice();
        oneTooMany();
        notThere();
        firstMet();
        latestFault();
        Due.finish("FaultTest");
    }

    /** The first TOKENS of a line that is taken, a blank behind each. */
    private static String begun(String[] line, int tokens, String blank) {
        StringBuilder s = new StringBuilder();
        for (int i = 0; i < tokens; i++) {
            s.append(i == 0 ? line[0] : good(line[i])).append(blank);
        }
        return s.toString();
    }

    private static String good(String token) {
        return token.equals(KIND) ? KINDS[0] : token.substring(0, 1);
    }

    /** What may not stand as TOKEN i, behind all that may stand ahead of it. */
    private static void tokenAt(String before, String[] line, int i) {
        int place = before.length();
        for (int c = 0; c < 128; c++) {
            if (!(c >= 'a' && c <= 'z' || c >= '0' && c <= '9' || c == ';' || c == ' ')) {
                told(before + (char) c, 1, place);
            }
        }
        for (String number : new String[] {"000", "001", "100", "999", "1234"}) {
            told(before + number, 1, place);
            told(before + number + ";", 1, place);
        }
        boolean house = line[0].equals("house") && i == line.length;
        if (i == 0) {
            misplaced(before, "0", "9", ";", "plain", "x");
        } else if (i == line.length) {
            misplaced(before, "", " ", "row", "plain", "x");
            if (!house) {
                misplaced(before, "0", "99");
            }
        } else if (line[i].equals(KIND)) {
            misplaced(before, "", " ", "0", ";", "row", "vow", "x", "plai", "plains", "lef", "drunken", "join", "threa", "threats");
        } else {
            misplaced(before, "", " ", ";", "x", "row", "plain");
            numbers(before, line, i);
        }
    }

    /** FAULT 2 at the TOKEN, or at the end where there is none. */
    private static void misplaced(String before, String... tokens) {
        for (String token : tokens) {
            boolean end = token.isBlank();
            told(before + token, 2, end ? (before + token).length() : before.length());
            if (!end) {
                told(before + token + " 0;", 2, before.length());
            }
        }
    }

    /** Each NUMBER of one or two figures is in its bounds, or FAULT 3. */
    private static void numbers(String before, String[] line, int i) {
        for (int n = 0; n <= 99; n++) {
            for (String figures : n < 10 ? new String[] {"" + n, "0" + n} : new String[] {"" + n}) {
                String text = before + figures;
                if (within(line[i], n)) {
                    // the text ends there, and no TOKEN is refused before the end is
                    told(text, 2, text.length());
                } else {
                    told(text, 3, before.length());
                    told(text + "!", 3, before.length());
                }
            }
        }
    }

    private static boolean within(String bounds, int n) {
        for (String part : bounds.split(" ")) {
            String[] ends = part.split("-");
            if (Integer.parseInt(ends[0]) <= n && n <= Integer.parseInt(ends[1])) {
                return true;
            }
        }
        return false;
    }

    private static void told(String text, int fault, int place) {
        VowTerrace x = new VowTerrace();
        Due.feed(x, text);
        Due.is("text() of '" + text + "'", x.text(), -10 - place);
        Due.is("fault() of '" + text + "'", x.fault(), fault);
    }

    /** All of a .. z stand in NAMES, their neighbours do not; the same for figures and ; . */
    private static void bytesOfNames() {
        for (char c = 'a'; c <= 'z'; c++) {
            told("" + c, 2, 0);
            told("row" + c + " 3;", 2, 0);
        }
        for (int c : new int[] {'a' - 1, 'z' + 1, 'A', 'Z', '0' - 1, '9' + 1, ';' + 1, 0, 31, 33, 127, '\t', '\n'}) {
            told("" + (char) c, 1, 0);
            told("row 3;" + (char) c, 1, 6);
            told("row 3" + (char) c + ";", 1, 5);
            told("row" + (char) c + "3;", 1, 3);
        }
        for (char c = '0'; c <= '9'; c++) {
            told("" + c, 2, 0);
            Due.is("cost(0)", Due.told("deed " + c + ";").cost(0), c - '0');
        }
    }

    private static void namesThatBeginNoLine() {
        for (String[] line : LINES) {
            String name = line[0];
            told(name.substring(0, name.length() - 1) + " 0", 2, 0);
            told(name + "s 0", 2, 0);
            told("x" + name + " 0", 2, 0);
            told(name + name + " 0", 2, 0);
        }
        for (String kind : KINDS) {
            told(kind + " 0", 2, 0);
        }
    }

    private static void asLongAsMayBe() {
        told("row22;", 3, 3);
        told("row2 2;", 2, 5);
        told("rowring 2;", 2, 0);
        told("r ow 2;", 2, 0);
        told("deed 9;;", 2, 7);
        told("deed;", 2, 4);
        told("deed 0;vow0plain00;", 2, 18);
        told("deed 0;vow0plain000;", 1, 16);
        Due.is("vow(0, 2)", Due.told("deed 0;vow0plain03 0;").vow(0, 2), 3);
        Due.is("rule(0)", Due.told("row7;").rule(0), 7);
        Due.is("rule(0)", Due.told("row07;").rule(0), 7);
        Due.is("lines", lines("row7;deed 0;deed 1;want 0 1;"), 4);
        Due.is("no line", lines(""), 0);
        Due.is("a blank", lines(" "), 0);
    }

    private static int lines(String text) {
        VowTerrace x = new VowTerrace();
        Due.feed(x, text);
        return x.text();
    }

    /** house: behind the PURSE any DEEDS, each once. */
    private static void moreThatItCan() {
        String deeds = "deed0;deed0;deed0;deed0;deed0;";
        String before = deeds + "house 0 0 ";
        for (int d = 0; d <= 99; d++) {
            if (d > 4) {
                told(before + d + ";", 3, 40);
                told(before + "1 " + d + ";", 3, 42);
            } else {
                Due.is("house(0, 1)", Due.told(before + d + ";").house(0, 1), 1 << d);
                told(before + d + " " + d + ";", 4, 42);
                told(before + d + " 0" + d + "!", 4, 42);
                told(before + d, 2, 41);
                told(before + d + " x", 2, 42);
                told(before + d + " !", 1, 42);
                told(before + d + " 100", 1, 42);
            }
        }
        // in this line: another line tells it for another house
        Due.told(deeds + "house 0 0 1;house 1 0 1;");
        told(before + "0 1 2 3 4 2;", 4, 50);
    }

    private static void toldTwice() {
        for (String first : new String[] {"row", "ring"}) {
            for (String second : new String[] {"row", "ring"}) {
                String text = first + " 3; ";
                told(text + second + " 3;", 4, text.length());
                told(text + second, 4, text.length());
                told(text + second + " 9;", 4, text.length());
                told(text + second + "!", 4, text.length());
            }
        }
        for (int h = 0; h < 7; h++) {
            String rows = "row 7;deed 0;";
            told(rows + "house " + h + " 0;house " + h + " 0;", 4, 29);
            told(rows + "house " + h + " 0;house  0" + h + "!", 4, 30);
            told(rows + "lawyer " + h + ";lawyer " + h + ";", 4, 29);
            told(rows + "lawyer " + h + ";lawyer " + h, 4, 29);
            told(rows + "habit " + h + " left 0 0;habit " + h + " left 0 0;", 4, 36);
            told(rows + "habit " + h + " left 0 0;habit " + h + " x", 4, 36);
            int next = (h + 1) % 7;
            Due.told(rows + "house " + h + " 0;house " + next + " 0;lawyer " + h + ";lawyer " + next + ";habit " + h + " left 0 0;habit " + next + " left 0 0;");
        }
        // out of its bounds comes before told already
        told("house 6 0;house 7 0;", 3, 16);
    }

    private static void oneTooMany() {
        String deeds = "deed1;deed1;deed1;deed1;deed1;";
        Due.told(deeds);
        told(deeds + "deed1;", 5, 30);
        told(deeds + " row 2; deed", 5, 38);
        told(deeds + "deed!", 5, 30);
        String wants = "deed1;want0 0;want0 0;want0 0;want0 0;";
        Due.told(wants);
        told(wants + "want0 0;", 5, 38);
        told(wants + "  want", 5, 40);
        told(wants + "want!", 5, 38);
        String vows = "deed1;" + "vow0left0 0;".repeat(10);
        Due.told(vows);
        told(vows + "vow0left0 0;", 5, 126);
        told(vows + " deed 2;  vow", 5, 136);
        told(vows + "vow 9", 5, 126);
        told(vows + "vow!", 5, 126);
    }

    private static void notThere() {
        // three HOUSES without a row: the third is there, the fourth not
        for (String line : List.of("house # 0;", "lawyer #;", "habit # plain 0 0;", "vow # plain 0 0;", "want # 0;")) {
            Due.told("deed 0;" + line.replace("#", "2"));
            for (int h = 3; h < 7; h++) {
                String text = "deed 0;" + line.replace('#', (char) ('0' + h));
                told(text, 6, text.length());
                told(text + "   ", 6, text.length() + 3);
                Due.told(text + "row " + (h + 1) + ";");
                told(text + "row " + h + ";", 6, text.length() + 6);
            }
        }
        for (String line : List.of("house 0 0 #;", "habit 0 plain # 0;", "vow 0 plain 0 #;", "want 0 #;")) {
            for (int d = 0; d < 5; d++) {
                String text = line.replace('#', (char) ('0' + d)) + "deed 0;".repeat(d);
                told(text, 6, text.length());
                Due.told(text + "deed 0;");
            }
        }
    }

    /** "The first met as it is read": what stands behind has not been read, what is asked behind all comes last. */
    private static void firstMet() {
        told("want 6 4;row 8;", 3, 13);
        told("want 6 4;!", 1, 9);
        told("want 6 4", 2, 8);
        told("want 6 4;row 2;row 2;", 4, 15);
        told("want 6 4;want 6 4;want 6 4;want 6 4;want", 5, 36);
        told("row x!", 2, 4);
        told("row 9!", 3, 4);
        told("row !9", 1, 4);
        told("vow 7 x", 3, 4);
        told("vow 6 x 9", 2, 6);
        told("vow 6 left 4 5;", 3, 11);
        told("vow 6 left 9 5;", 3, 13);
        told("row 3 123", 1, 6);
        told("123 row", 1, 0);
    }

    private static void latestFault() {
        VowTerrace x = new VowTerrace();
        Due.is("fault() ahead of any", x.fault(), 0);
        String[] wrong = {"!", "row", "row 1;", "row 2;row 2;", "deed0;deed0;deed0;deed0;deed0;deed0;", "row 2;lawyer 2;"};
        for (int fault = 1; fault <= wrong.length; fault++) {
            Due.feed(x, wrong[fault - 1]);
            Due.is("fault() ahead of text()", x.fault(), fault - 1);
            x.text();
            Due.is("fault()", x.fault(), fault);
            Due.is("fault() again", x.fault(), fault);
        }
        Due.is("text() of an empty tape", x.text(), 0);
        Due.is("fault()", x.fault(), 0);
    }
}
