import java.lang.reflect.Constructor;
import java.lang.reflect.Field;
import java.lang.reflect.Method;
import java.lang.reflect.Modifier;
import java.nio.file.Files;
import java.nio.file.Path;
import java.util.TreeSet;
import java.util.regex.Matcher;
import java.util.regex.Pattern;

/** The public face, letter by letter, and the rules of LANGUAGE.md that can be seen from outside. */
public final class FaceTest {
    private static final String[] METHODS = {
        "int feed(int)", "int end(int)", "int text()", "int fault()", "int rule(int)", "int house(int,int)",
        "int cost(int)", "int vow(int,int)", "int want(int,int)", "int fund(int,int)", "int can(int,int,boolean)",
        "int lawyer(int,boolean)", "int habit(int,int,int,int)", "int vows(int,int,int,int)", "int wish(int,int)",
        "int drop(int,int)", "int move(int,int)", "int go(int)", "int ahead(int,int,int)", "int rest()",
        "int plan(int)", "int who(int,int,int)", "int ways(int,int,int)", "int ever()", "int stop(int)",
        "int best(int,int)", "long mean(int,int)", "long luck(int,int)", "int drift(int,int,int)", "int keep(int)",
        "int back(int)", "int sheet(int,int,int)", "int lay(int,int,int)", "int read(int,int,int,int)", "int torn()",
        "int count(int)"};

    public static void main(String[] args) throws Exception {
        face();
        inside();
        source();
        Due.finish("FaceTest");
    }

    private static void face() {
        TreeSet<String> due = new TreeSet<>(java.util.List.of(METHODS));
        TreeSet<String> got = new TreeSet<>();
        TreeSet<String> names = new TreeSet<>();
        for (Method m : VowTerrace.class.getDeclaredMethods()) {
            if (!Modifier.isPrivate(m.getModifiers())) {
                StringBuilder s = new StringBuilder(m.getReturnType() + " " + m.getName() + "(");
                for (int i = 0; i < m.getParameterCount(); i++) {
                    s.append(i == 0 ? "" : ",").append(m.getParameterTypes()[i]);
                }
                got.add(s.append(')').toString());
                names.add(m.getName());
                Due.is(m + " is public", Modifier.isPublic(m.getModifiers()) ? 1 : 0, 1);
            }
        }
        Due.is("methods " + got, got.equals(due) ? 1 : 0, 1);
        for (Method m : VowTerrace.class.getDeclaredMethods()) {
            if (Modifier.isPrivate(m.getModifiers())) {
                Due.is("private " + m.getName() + " has a public one's name", names.contains(m.getName()) ? 1 : 0, 0);
            }
        }
        for (Class<?> c : VowTerrace.class.getDeclaredClasses()) {
            for (Method m : c.getDeclaredMethods()) {
                Due.is(m + " has a public one's name", names.contains(m.getName()) ? 1 : 0, 0);
                Due.is(m + " has seven parameters at most", m.getParameterCount() <= 7 ? 1 : 0, 1);
            }
        }
        Constructor<?>[] made = VowTerrace.class.getDeclaredConstructors();
        Due.is("constructors", made.length, 1);
        Due.is("parameters", made[0].getParameterCount(), 0);
        Due.is("final", Modifier.isFinal(VowTerrace.class.getModifiers()) ? 1 : 0, 1);
        Due.is("BAD", VowTerrace.BAD, -1);
        Due.is("STATE", VowTerrace.STATE, -2);
        Due.is("FULL", VowTerrace.FULL, -3);
        Due.is("NONE", VowTerrace.NONE, -4);
    }

    private static void inside() {
        int open = 0;
        for (Field f : VowTerrace.class.getDeclaredFields()) {
            open += Modifier.isPrivate(f.getModifiers()) ? 0 : 1;
        }
        Due.is("fields that are not private", open, 4);
        Class<?>[] all = VowTerrace.class.getDeclaredClasses();
        Due.is("classes", all.length <= 11 ? 1 : 0, 1);
        for (Class<?> c : all) {
            Due.is(c + " is static", Modifier.isStatic(c.getModifiers()) ? 1 : 0, 1);
            int fields = 0;
            for (Field f : c.getDeclaredFields()) {
                boolean still = Modifier.isStatic(f.getModifiers());
                fields += still ? 0 : 1;
                Due.is(f + " is final if static", !still || Modifier.isFinal(f.getModifiers()) ? 1 : 0, 1);
            }
            Due.is(c + " fields", fields <= 20 ? 1 : 0, 1);
        }
    }

    private static void source() throws Exception {
        String text = Files.readString(Path.of("src/main/java/VowTerrace.java"));
        Due.is("signs of ASCII alone", text.chars().filter(c -> c > 126).count(), 0);
        String code = text.replaceAll("(?s)/\\*.*?\\*/", "").replaceAll("//[^\n]*", "");
        String banned = "\\b(throw|throws|try|catch|synchronized|assert|import|package|double|float|native|volatile|hashCode|toString)\\b|->|::|Exact\\b|System\\.(?!arraycopy)";
        Matcher m = Pattern.compile(banned).matcher(code);
        while (m.find()) {
            Due.is("banned: " + m.group(), 1, 0);
        }
        int start = -1;
        String[] lines = text.split("\n");
        for (int i = 0; i < lines.length; i++) {
            if (lines[i].matches("( {4}| {8})(public |private |static |final )*[\\w\\[\\]]+ \\w+\\(.*\\{")) {
                start = i;
            }
            if (lines[i].matches("( {4}| {8})\\}") && start >= 0) {
                Due.is("lines of " + lines[start].trim(), i - start <= 60 ? 1 : 0, 1);
                start = -1;
            }
        }
    }
}
