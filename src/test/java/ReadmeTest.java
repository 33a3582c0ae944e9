import java.lang.reflect.Method;
import java.nio.file.Files;
import java.nio.file.Path;
import java.util.TreeSet;
import java.util.regex.Matcher;
import java.util.regex.Pattern;

/** The run of calls in README.md has the answers that stand beside it, and uses every call. */
public final class ReadmeTest {
    private static final Pattern FED = Pattern.compile("for \\(char c : \"([^\"]*)\"\\.toCharArray\\(\\)\\) \\{");
    private static final Pattern ASKED = Pattern.compile("x\\.(\\w+)\\(([^)]*)\\); +// (-?\\d+).*");
    private static final Pattern FRAME = Pattern.compile("VowTerrace x = new VowTerrace\\(\\);| {4}x\\.feed\\(c\\);|}|// .*|");

    public static void main(String[] args) throws Exception {
        String readme = Files.readString(Path.of("README.md"));
        String run = readme.substring(readme.indexOf("```java\n") + 8, readme.lastIndexOf("```"));
        VowTerrace x = new VowTerrace();
        TreeSet<String> used = new TreeSet<>();
        for (String line : run.split("\n")) {
            Matcher fed = FED.matcher(line);
            Matcher asked = ASKED.matcher(line);
            if (fed.matches()) {
                Due.feed(x, fed.group(1));
                used.add("feed");
            } else if (asked.matches()) {
                Due.is(line, answer(x, asked.group(1), asked.group(2)), Long.parseLong(asked.group(3)));
                used.add(asked.group(1));
            } else {
                Due.is("line that is no call: " + line, FRAME.matcher(line).matches() ? 1 : 0, 1);
            }
        }
        for (Method m : VowTerrace.class.getDeclaredMethods()) {
            boolean open = java.lang.reflect.Modifier.isPublic(m.getModifiers());
            Due.is(m.getName() + " is used", !open || used.contains(m.getName()) ? 1 : 0, 1);
        }
        Due.finish("ReadmeTest");
    }

    private static long answer(VowTerrace x, String name, String told) throws Exception {
        String[] words = told.isEmpty() ? new String[0] : told.split(", ");
        Class<?>[] types = new Class<?>[words.length];
        Object[] given = new Object[words.length];
        for (int i = 0; i < words.length; i++) {
            boolean flag = words[i].equals("true") || words[i].equals("false");
            types[i] = flag ? boolean.class : int.class;
            given[i] = flag ? (Object) Boolean.valueOf(words[i]) : (Object) Integer.valueOf(words[i]);
        }
        return ((Number) VowTerrace.class.getMethod(name, types).invoke(x, given)).longValue();
    }
}
