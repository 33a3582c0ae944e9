import java.util.ArrayList;
import java.util.List;
import java.util.Map;
import java.util.TreeSet;
import java.util.regex.Matcher;
import java.util.regex.Pattern;

/** A text read once more by other means: TOKENS by a pattern, lines by a table of what stands in them. */
final class Told {
    /** h HOUSE, d DEED, D DEEDS as many as come, k KIND, e how DEEP; the others are numbers. */
    private static final Map<String, String> LINES = Map.of("row", "n", "ring", "n", "deed", "c", "house", "hpD", "lawyer", "h", "habit", "hkdo", "vow", "hked", "want", "hd");
    private static final Map<Character, int[]> BOUNDS = Map.of('n', new int[] {2, 7}, 'c', new int[] {0, 9}, 'h', new int[] {0, 6}, 'p', new int[] {0, 99}, 'd', new int[] {0, 4}, 'o', new int[] {0, 10}, 'e', new int[] {0, 9});
    private static final Map<String, Integer> MOST = Map.of("shape", 1, "deed", 5, "vow", 10, "want", 4);
    private static final List<String> KINDS = List.of("plain", "left", "drunk", "joint", "threat");
    private static final Pattern TOKEN = Pattern.compile(" *([a-z]+|[0-9]+|;|[^ ])");

    private static final class Found extends RuntimeException {
        private static final long serialVersionUID = 1;
        final int fault;
        final int place;

        Found(int fault, int place) {
            this.fault = fault;
            this.place = place;
        }
    }

    final Model model = new Model();
    int fault;
    int place;
    int lines;
    private final String text;
    private final Matcher tokens;
    private final List<String> names = new ArrayList<>();
    private final TreeSet<String> told = new TreeSet<>();
    private final TreeSet<Integer> houses = new TreeSet<>(List.of(0));
    private final TreeSet<Integer> deeds = new TreeSet<>(List.of(-1));
    private String token = "";
    private int start;

    Told(String text) {
        this.text = text;
        tokens = TOKEN.matcher(text);
        try {
            for (next(); !token.isEmpty(); next()) {
                line();
                lines++;
            }
            if (houses.last() >= model.houses || deeds.last() >= model.costs.size()) {
                throw new Found(6, text.length());
            }
        } catch (Found f) {
            fault = f.fault;
            place = f.place;
        }
    }

    /** The end is an empty TOKEN. */
    private void next() {
        if (!tokens.find(start + token.length())) {
            token = "";
            start = text.length();
            return;
        }
        token = tokens.group(1);
        start = tokens.start(1);
        if (!token.matches("[a-z]+|[0-9]{1,2}|;")) {
            throw new Found(1, start);
        }
    }

    private void line() {
        String name = token;
        String form = LINES.get(name);
        if (form == null) {
            throw new Found(2, start);
        }
        String sort = form.equals("n") ? "shape" : name;
        names.add(sort);
        if (MOST.containsKey(sort) && names.stream().filter(sort::equals).count() > MOST.get(sort)) {
            throw new Found(sort.equals("shape") ? 4 : 5, start);
        }
        List<Integer> values = new ArrayList<>();
        next();
        for (char slot : form.toCharArray()) {
            if (slot == 'D') {
                while (token.matches("[0-9]+")) {
                    values.add(value('d'));
                    if (values.subList(2, values.size() - 1).contains(values.get(values.size() - 1))) {
                        throw new Found(4, start);
                    }
                    next();
                }
            } else {
                values.add(value(slot));
                boolean once = slot == 'h' && List.of("house", "lawyer", "habit").contains(name);
                if (once && !told.add(name + values.get(0))) {
                    throw new Found(4, start);
                }
                next();
            }
        }
        if (!token.equals(";")) {
            throw new Found(2, start);
        }
        tell(name, values);
    }

    private int value(char slot) {
        if (slot == 'k' ? !KINDS.contains(token) : !token.matches("[0-9]+")) {
            throw new Found(2, start);
        }
        if (slot == 'k') {
            return KINDS.indexOf(token);
        }
        int v = Integer.parseInt(token);
        if (v < BOUNDS.get(slot)[0] || v > BOUNDS.get(slot)[1] || slot == 'e' && v > 3 && v < 9) {
            throw new Found(3, start);
        }
        if (slot == 'h') {
            houses.add(v);
        } else if (slot == 'd') {
            deeds.add(v);
        }
        return v;
    }

    private void tell(String name, List<Integer> v) {
        switch (name) {
            case "row": case "ring":
                model.houses = v.get(0);
                model.ring = name.equals("ring");
                break;
            case "deed": model.costs.add(v.get(0)); break;
            case "house":
                model.purse[v.get(0)] = v.get(1);
                v.subList(2, v.size()).forEach(d -> model.can[v.get(0)][d] = true);
                break;
            case "lawyer": model.lawyer[v.get(0)] = true; break;
            case "habit": model.habit[v.get(0)] = new int[] {v.get(1), v.get(2), v.get(3)}; break;
            case "vow": model.vows.add(new int[] {v.get(0), v.get(1), v.get(2), v.get(3)}); break;
            default: model.wants.add(new int[] {v.get(0), v.get(1)}); break;
        }
    }
}
