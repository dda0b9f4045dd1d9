import java.io.IOException;
import java.lang.reflect.Constructor;
import java.lang.reflect.Field;
import java.lang.reflect.Method;
import java.lang.reflect.Modifier;
import java.nio.file.Files;
import java.nio.file.Path;
import java.util.ArrayList;
import java.util.Arrays;
import java.util.List;
import java.util.Set;
import java.util.TreeSet;

/** The public face, and what can be seen of LANGUAGE.md's rules by looking at the class and its text. */
public final class FaceTest {
    private static final String[] FACE = {
        "int feed(int,int,int,int,int)", "boolean end(int)", "int lake()", "int fault()", "int person(int,int)",
        "int cell(int,int,int)", "int now(int)", "int go(int,int)", "int bow(int)", "int praise(int,int)", "int swear(int)",
        "int hours(int)", "int undo()", "int way(int,int,int)", "int wayAt(int)", "int bows(int,int,int)",
        "int firm(int,int,int)", "int swears(int)", "int falls(int)", "int fair()", "int swore()", "int ask()",
        "int stands(int)", "int mean(int)", "int line(int)", "int byteAt(int)", "int drawn(int,int)",
        "int odds(int,int,int)", "int book(int)", "int told(int)", "int sentence()", "int said(int)", "boolean image(int)",
        "boolean restore(int)", "int count(int)",
    };

    public static void main(String[] args) throws IOException {
        face();
        inside();
        text(Files.readAllLines(Path.of("src/main/java/IceManners.java")));
        Check.finish();
    }

    private static String written(Method m) {
        StringBuilder all = new StringBuilder(m.getReturnType().getName()).append(' ').append(m.getName()).append('(');
        for (int i = 0; i < m.getParameterCount(); i++) {
            all.append(i > 0 ? "," : "").append(m.getParameterTypes()[i].getName());
        }
        return all.append(')').toString();
    }

    private static void face() {
        Check.due("NONE", IceManners.NONE, -1);
        Check.due("public and final", IceManners.class.getModifiers() & (Modifier.PUBLIC | Modifier.FINAL),
            Modifier.PUBLIC | Modifier.FINAL);
        Set<String> open = new TreeSet<>();
        for (Method m : IceManners.class.getDeclaredMethods()) {
            if (!Modifier.isPrivate(m.getModifiers()) && !m.isSynthetic()) {
                open.add(written(m));
            }
        }
        Check.due("the methods " + open, open.equals(new TreeSet<>(Arrays.asList(FACE))), true);
        for (Field f : IceManners.class.getDeclaredFields()) {
            Check.due("field " + f.getName(), Modifier.isPrivate(f.getModifiers()), !f.getName().equals("NONE"));
        }
        Constructor<?>[] made = IceManners.class.getDeclaredConstructors();
        Check.due("constructors", made.length, 1);
        Check.due("it is public", Modifier.isPublic(made[0].getModifiers()), true);
        Check.due("without arguments", made[0].getParameterCount(), 0);
    }

    private static void inside() {
        Set<String> names = new TreeSet<>();
        for (String m : FACE) {
            names.add(m.substring(m.indexOf(' ') + 1, m.indexOf('(')));
        }
        List<Class<?>> classes = new ArrayList<>(Arrays.asList(IceManners.class.getDeclaredClasses()));
        Check.due("classes", classes.size() < 12, true);
        for (Class<?> c : classes) {
            Check.due(c + " is private or of the package", c.getModifiers() & (Modifier.PUBLIC | Modifier.PROTECTED), 0);
            Check.due(c + " is static", Modifier.isStatic(c.getModifiers()), true);
        }
        classes.add(IceManners.class);
        for (Class<?> c : classes) {
            int fields = 0;
            for (Field f : c.getDeclaredFields()) {
                boolean isStatic = Modifier.isStatic(f.getModifiers());
                Check.due(c + ": static " + f.getName() + " is final", !isStatic || Modifier.isFinal(f.getModifiers()), true);
                fields += isStatic ? 0 : 1;
            }
            Check.due(c + " has few fields", fields <= 20, true);
            for (Method m : c.getDeclaredMethods()) {
                Check.due(c + "." + m.getName() + " has few parameters", m.getParameterCount() <= 7, true);
                Check.due(c + "." + m.getName() + " is no name of the face",
                    names.contains(m.getName()) && c != IceManners.class, false);
            }
        }
    }

    private static void text(List<String> lines) {
        String[] banned = {"->", "::", "try {", "catch (", "finally", "synchronized", "assert", "static {", "Exact(", "lambda",
            "System.out", "Random", "Thread", "hashCode", "toString", "package ", "float", "double", "@"};
        int since = 0;
        int indent = 4;
        int methods = 0;
        for (int k = 0; k < lines.size(); k++) {
            String line = lines.get(k);
            for (String word : banned) {
                Check.due("line " + (k + 1) + " has " + word, line.contains(word), false);
            }
            if (line.startsWith("import ")) {
                Check.due("line " + (k + 1), line.matches("import java.util.(Arrays|NoSuchElementException);"), true);
            }
            boolean head = line.matches("( {4}| {8})(?!if|for|while|switch|\\} else)[^ /*].*\\) (throws \\w+ )?\\{");
            since = head ? k : since;
            indent = head ? line.indexOf(line.trim()) : indent;
            if (line.equals(" ".repeat(indent) + "}")) {
                methods++;
                Check.due("the method that ends at line " + (k + 1) + " is short", k - since < 60, true);
            }
            Check.due("line " + (k + 1) + " is of plain signs", line.matches("[ -~]{0,120}"), true);
        }
        Check.due("methods were found", methods > 100, true);
    }
}
