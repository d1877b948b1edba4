import java.lang.reflect.Constructor;
import java.lang.reflect.Field;
import java.lang.reflect.Method;
import java.lang.reflect.Modifier;
import java.nio.file.Files;
import java.nio.file.Path;
import java.util.Arrays;
import java.util.List;
import java.util.Random;
import java.util.TreeSet;
import java.util.regex.Matcher;
import java.util.regex.Pattern;

/** The public face, what LANGUAGE.md rules out, and that no call throws for any arguments in any state. */
public final class FaceTest {
    private static final String[] FACE = {
        "int type(long, int)", "int clear()", "int yard()", "int cell(int)", "int chain(int, int)",
        "int step(int, int)", "int straight(int)", "int joint(int, int)", "int way(int, int, int)",
        "long ways(int, int, int)", "int mend(int, int)", "int lines(int)", "int hedges(int)", "int gusts(int)",
        "int lot(int)", "int build(int)", "int raze(int)", "int street(int, int)", "int close()",
        "int mark(int, int)", "int keep(int)", "int back(int)", "int count(int)", "long trace()"};

    public static void main(String[] args) throws Exception {
        face();
        privateNames();
        source();
        noCallThrows();
        Check.end();
    }

    private static void isTrue(String what, boolean holds) {
        Check.due(what, holds ? 1 : 0, 1);
    }

    private static void face() {
        int of = BentYards.class.getModifiers();
        isTrue("public and final", Modifier.isPublic(of) && Modifier.isFinal(of));
        TreeSet<String> methods = new TreeSet<>();
        for (Method m : BentYards.class.getDeclaredMethods()) {
            if (!Modifier.isPrivate(m.getModifiers())) {
                isTrue(m + " is public, not static", m.getModifiers() == Modifier.PUBLIC);
                String types = Arrays.toString(m.getParameterTypes()).replace("[", "(").replace("]", ")");
                methods.add(m.getReturnType() + " " + m.getName() + types);
            }
        }
        isTrue("the methods are " + methods, methods.equals(new TreeSet<>(List.of(FACE))));
        TreeSet<String> fields = new TreeSet<>();
        for (Field f : BentYards.class.getDeclaredFields()) {
            if (!Modifier.isPrivate(f.getModifiers())) {
                isTrue(f + " is a public constant", f.getModifiers()
                        == (Modifier.PUBLIC | Modifier.STATIC | Modifier.FINAL) && f.getType() == int.class);
                fields.add(f.getName());
            }
        }
        isTrue("the constants are " + fields, fields.equals(new TreeSet<>(
                List.of("BAD", "STATE", "FULL", "NONE", "NO"))));
        Constructor<?>[] all = BentYards.class.getDeclaredConstructors();
        isTrue("one constructor", all.length == 1 && all[0].getParameterCount() == 0
                && Modifier.isPublic(all[0].getModifiers()));
    }

    private static void privateNames() {
        TreeSet<String> names = new TreeSet<>();
        for (String method : FACE) {
            names.add(method.replaceAll("^\\w+ (\\w+)\\(.*", "$1"));
        }
        for (Method m : BentYards.class.getDeclaredMethods()) {
            isTrue(m + " has a name of its own", Modifier.isPublic(m.getModifiers()) || !names.contains(m.getName()));
        }
        for (Class<?> inside : BentYards.class.getDeclaredClasses()) {
            isTrue(inside + " is static", Modifier.isStatic(inside.getModifiers()));
            isTrue(inside + " has few fields", Arrays.stream(inside.getDeclaredFields())
                    .filter(f -> !Modifier.isStatic(f.getModifiers())).count() <= 20);
            for (Method m : inside.getDeclaredMethods()) {
                isTrue(m + " has a name of its own", !names.contains(m.getName()));
                isTrue(m + " has few parameters", m.getParameterCount() <= 7);
            }
        }
        isTrue("few classes", BentYards.class.getDeclaredClasses().length < 12);
    }

    private static void source() throws Exception {
        String text = Files.readString(Path.of("src/main/java/BentYards.java"));
        String code = text.replaceAll("(?s)/\\*.*?\\*/", "").replaceAll("//[^\n]*", "");
        isTrue("signs 1 to 127 alone", text.chars().allMatch(c -> c > 0 && c < 128));
        String[] words = {"throw", "throws", "try", "catch", "finally", "synchronized", "assert", "package",
            "protected", "double", "float", "Object", "System\\.(?!arraycopy)", "->", "::", "@"};
        for (String word : words) {
            String pattern = Character.isLetter(word.charAt(0)) ? "\\b" + word + (word.endsWith(")") ? "" : "\\b") : word;
            isTrue("no " + word, !Pattern.compile(pattern).matcher(code).find());
        }
        Matcher imports = Pattern.compile("import ([^;]*);").matcher(code);
        while (imports.find()) {
            isTrue("import " + imports.group(1), imports.group(1).equals("java.util.Arrays"));
        }
        madeInConstructorsOnly(code);
        shortMethods(text);
    }

    /** Rule 12: a run's room is what its constructors make. */
    private static void madeInConstructorsOnly(String code) {
        String method = "";
        for (String line : code.split("\n")) {
            if (line.matches("\\s+(public |private |static |final )*[\\w\\[\\]]* ?\\w+\\([^)]*\\) \\{")) {
                method = line.trim();
            }
            if (line.matches(".*\\bnew\\b.*")) {
                isTrue("made in a constructor: " + line.trim() + " in " + method,
                        method.matches("(public )?(BentYards|[A-Z]\\w*)\\(\\) \\{"));
            }
        }
    }

    private static void shortMethods(String text) {
        int lines = 0;
        for (String line : text.split("\n")) {
            lines = line.matches("    (    )?\\S.*\\) \\{") ? 0 : lines + 1;
            if (line.matches("    (    )?\\}")) {
                isTrue("a method of " + lines + " lines", lines <= 60 || line.equals("    }"));
            }
        }
    }

    private static void noCallThrows() throws Exception {
        Random random = new Random(11);
        Method[] methods = BentYards.class.getDeclaredMethods();
        Arrays.sort(methods, (a, b) -> a.getName().compareTo(b.getName()));
        for (int run = 0; run < 60; run++) {
            BentYards x = new BentYards();
            for (int i = 0; i < 512; i++) {
                Method m = methods[random.nextInt(methods.length)];
                if (Modifier.isPublic(m.getModifiers())) {
                    m.invoke(x, arguments(m, random));
                }
            }
            isTrue("a run of any calls", x.count(0) >= 1);
        }
    }

    private static Object[] arguments(Method m, Random random) {
        Object[] all = new Object[m.getParameterCount()];
        for (int i = 0; i < all.length; i++) {
            int[] some = {random.nextInt(), random.nextInt(30) - 2, random.nextInt(6) - 1, Integer.MIN_VALUE,
                Integer.MAX_VALUE, 123412341, random.nextInt(4)};
            int v = some[random.nextInt(some.length)];
            all[i] = m.getParameterTypes()[i] == long.class ? (Object) random.nextLong() : (Object) v;
        }
        return all;
    }
}
