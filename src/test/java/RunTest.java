import java.lang.reflect.Method;
import java.util.ArrayList;
import java.util.Arrays;
import java.util.List;
import java.util.Random;

/** Whole runs of calls, all of them in any order, beside those of Whole: texts, changes, days, IMAGES, SHEETS together. */
public final class RunTest {
    private static final int RUNS = 700, CALLS = 512;
    private static final int[] EDGES = {Integer.MIN_VALUE, -21, -2, -1, 0, 1, 2, 3, 4, 5, 6, 7, 8, 9, 10, 11, 14, 15, 20, 21, 36, 37, 40, 41, 60, 61, 99, 100, 127, 128, 159, 160, 255, 256, 65535, Integer.MAX_VALUE};
    private static final String[] KINDS = {"plain", "left", "drunk", "joint", "threat"};
    private static final String[] SLIPS = {"", " ", "  ", ";", "!", "7", "12", "100", "row 3;", "ring 7;", "plain", "x", "vow", "deed 1;", "A", "\n", "0", "house 1 5;", "lawyer 1;"};

    /** Each call with what its numbers are; the calls told twice come twice as often. */
    private static final String[] FORMS = {
        "end t", "fault", "rule 9", "house h x", "house h x", "cost d", "vow i 4", "vow i 4", "want 4 2", "fund h p", "can h d 2", "lawyer h 2",
        "habit h k d o", "habit h k d o", "vows h k e d", "vows h k e d", "vows h k e d", "wish h d", "drop 2 i", "move h h", "go g", "go g", "go g", "ahead h d n", "rest", "plan q", "plan q",
        "who h d 5", "ways h d 2", "ever", "stop 2", "best b 2", "mean h 2", "luck h 2", "drift s n 2",
        "keep 2", "back 2", "sheet 4 3 c", "lay 4 i v", "lay 4 i v", "read 4 3 f a", "read 4 3 f a", "torn", "count 7"};

    public static void main(String[] args) throws Exception {
        int from = args.length > 0 ? Integer.parseInt(args[0]) : 0;
        int runs = args.length > 1 ? Integer.parseInt(args[1]) : RUNS;
        for (int seed = from; seed < from + runs; seed++) {
            new RunTest(seed).run();
        }
        Due.finish("RunTest");
    }

    private final int seed;
    private final Random r;
    private final VowTerrace x = new VowTerrace();
    private final Whole due = new Whole();
    private int calls;

    private RunTest(int seed) {
        this.seed = seed;
        r = new Random(seed);
    }

    private void run() throws Exception {
        int slips = seed % 4;
        while (calls < CALLS) {
            if (calls == 0 ? r.nextInt(10) > 0 : r.nextInt(100) == 0) {
                // the first text is taken mostly, so that there is something to ask for
                tell(calls == 0 ? slips - 2 : slips);
            } else if (calls > 0 && r.nextInt(60) == 0) {
                laySheet();
            } else {
                String[] form = FORMS[r.nextInt(FORMS.length)].split(" ");
                int[] v = new int[4];
                for (int i = 1; i < form.length; i++) {
                    v[i - 1] = number(form[i].charAt(0), r.nextInt(14 + 10 * slips) == 0);
                }
                both(form[0], v);
            }
        }
    }

    private void both(String name, int... v) throws Exception {
        if (calls == CALLS) {
            return;
        }
        calls++;
        int[] all = Arrays.copyOf(v, 4);
        String told = "run " + seed + " call " + calls + ": " + name + Arrays.toString(all);
        Due.is(told, onClass(name, all), due.call(name, all[0], all[1], all[2], all[3]));
    }

    private long onClass(String name, int[] v) throws Exception {
        for (Method m : VowTerrace.class.getMethods()) {
            if (m.getName().equals(name)) {
                Object[] given = new Object[m.getParameterCount()];
                for (int i = 0; i < given.length; i++) {
                    boolean flag = m.getParameterTypes()[i] == boolean.class;
                    given[i] = flag ? (Object) (v[i] == 1) : (Object) v[i];
                }
                return ((Number) m.invoke(x, given)).longValue();
            }
        }
        throw new IllegalArgumentException(name);
    }

    private int number(char slot, boolean any) {
        if (any) {
            return EDGES[r.nextInt(EDGES.length)];
        }
        int deeds = Math.max(1, x.rule(2));
        switch (slot) {
            case 'h': return r.nextInt(x.rule(0));
            case 'd': return r.nextInt(deeds);
            case 'x': return r.nextInt(2) == 0 ? r.nextInt(6) : 10 + r.nextInt(deeds);
            case 'k': return r.nextInt(5);
            case 'e': return new int[] {0, 0, 1, 2, 3, 9}[r.nextInt(6)];
            case 'o': return r.nextInt(11);
            case 'p': return r.nextInt(2) == 0 ? r.nextInt(100) : 60 + r.nextInt(40);
            case 'g': return r.nextInt(10) == 0 ? r.nextInt(61) : r.nextInt(4);
            case 'n': return r.nextInt(61);
            case 'q': return r.nextInt(2) * (10 + r.nextInt(4));
            case 'b': return 1 + r.nextInt(20);
            case 's': return r.nextInt();
            case 't': return r.nextInt(30);
            case 'i': return r.nextInt(10);
            case 'c': return r.nextInt(41);
            case 'v': return r.nextInt(8) == 0 ? r.nextInt() : r.nextInt(4);
            case 'f': return r.nextInt(3) == 0 ? r.nextInt(40) : 0;
            case 'a': return r.nextInt(2) == 0 ? 1 : r.nextInt(11);
            default: return r.nextInt(slot - '0');
        }
    }

    /** A SHEET on which VOWS stand that may be taken. */
    private void laySheet() throws Exception {
        int k = r.nextInt(4);
        both("sheet", k, r.nextInt(3), 4 + r.nextInt(12));
        for (int i = 0; i < 8; i++) {
            both("lay", k, i, number("hked".charAt(i % 4), false) + 256 * r.nextInt(2));
        }
    }

    private void tell(int slips) throws Exception {
        String text = anyText();
        if (r.nextInt(4) < slips) {
            int at = r.nextInt(text.length() + 1);
            int to = Math.min(text.length(), at + r.nextInt(4));
            text = text.substring(0, at) + SLIPS[r.nextInt(SLIPS.length)] + text.substring(to);
        }
        feedAll(text);
        if (r.nextInt(3) == 0) {
            int n = r.nextInt(x.count(4) + 1);
            both("end", n);
            feedAll(text.substring(Math.min(n, text.length())));
        }
        both("text");
        both("fault");
    }

    private void feedAll(String text) throws Exception {
        for (char c : text.toCharArray()) {
            both("feed", c);
        }
    }

    private String anyText() {
        int houses = 2 + r.nextInt(6);
        int deeds = 1 + r.nextInt(5);
        List<String> lines = new ArrayList<>();
        lines.add((r.nextBoolean() ? "row " : "ring ") + houses + ";");
        for (int d = 0; d < deeds; d++) {
            lines.add("deed " + r.nextInt(r.nextInt(10) + 1) + ";");
        }
        List<String> more = new ArrayList<>();
        for (int h = 0; h < houses; h++) {
            StringBuilder able = new StringBuilder();
            for (int d = 0; d < deeds; d++) {
                able.append(r.nextInt(3) > 0 ? " " + d : "");
            }
            more.add("house " + h + " " + r.nextInt(100) + able + ";");
            more.add("habit " + h + " " + KINDS[r.nextInt(5)] + " " + r.nextInt(deeds) + " " + r.nextInt(11) + ";");
            if (r.nextInt(4) == 0) {
                more.add("lawyer " + h + ";");
            }
            more.add("vow " + h + " " + KINDS[r.nextInt(5)] + " " + number('e', false) + " " + r.nextInt(deeds) + ";");
            more.add("want " + h + " " + r.nextInt(deeds) + ";");
        }
        java.util.Collections.shuffle(more, r);
        // two in five of all that may be told, so that mostly not too much is
        lines.addAll(more.subList(0, more.size() * 2 / 5));
        if (r.nextInt(3) == 0) {
            java.util.Collections.shuffle(lines, r);
        }
        StringBuilder text = new StringBuilder();
        for (String line : lines) {
            if (text.length() + line.length() <= 158 || r.nextInt(20) == 0) {
                text.append(line);
            }
        }
        return text.toString();
    }
}
