import java.lang.reflect.Method;
import java.lang.reflect.Modifier;
import java.nio.file.Files;
import java.nio.file.Path;
import java.util.regex.Matcher;
import java.util.regex.Pattern;

/** README.md: each call of its example answers what stands behind it, and each call of the face is told. */
public final class ReadmeTest {
    private static final Pattern CALL = Pattern.compile("x\\.(\\w+)\\(([^)]*)\\); *// (-?\\d+)\\b.*");

    public static void main(String[] args) throws Exception {
        String readme = Files.readString(Path.of("README.md"));
        example(readme);
        everyCallIsTold(readme);
        constants(readme);
        Check.end();
    }

    private static void example(String readme) throws Exception {
        BentYards x = new BentYards();
        int calls = 0;
        int lines = 0;
        for (String line : readme.split("\n")) {
            Matcher call = CALL.matcher(line);
            lines += line.startsWith("x.") ? 1 : 0;
            if (call.matches()) {
                calls++;
                Check.due(line, ask(x, call.group(1), call.group(2)), Long.parseLong(call.group(3)));
            }
        }
        Check.due("lines of the example that tell no answer", lines - calls, 0);
        Check.due("there is an example", calls > 0 ? 1 : 0, 1);
    }

    private static long ask(BentYards x, String name, String told) throws Exception {
        String[] numbers = told.isEmpty() ? new String[0] : told.split(", ");
        for (Method m : BentYards.class.getMethods()) {
            if (m.getDeclaringClass() == BentYards.class && m.getName().equals(name)
                    && m.getParameterCount() == numbers.length) {
                Object[] all = new Object[numbers.length];
                for (int i = 0; i < all.length; i++) {
                    long v = Long.decode(numbers[i].replace("L", ""));
                    all[i] = m.getParameterTypes()[i] == long.class ? (Object) v : (Object) (int) v;
                }
                return ((Number) m.invoke(x, all)).longValue();
            }
        }
        throw new IllegalStateException("README.md asks " + name + "(" + told + "), which is none of the face");
    }

    private static void everyCallIsTold(String readme) {
        for (Method m : BentYards.class.getDeclaredMethods()) {
            if (Modifier.isPublic(m.getModifiers())) {
                boolean told = readme.contains("`" + m.getName() + "`");
                Check.due("README.md tells of " + m.getName(), told ? 1 : 0, 1);
            }
        }
    }

    private static void constants(String readme) {
        String[] names = {"BAD", "STATE", "FULL", "NONE"};
        int[] values = {BentYards.BAD, BentYards.STATE, BentYards.FULL, BentYards.NONE};
        for (int i = 0; i < names.length; i++) {
            boolean told = readme.contains("`" + names[i] + "` (" + values[i] + ")");
            Check.due("README.md tells what " + names[i] + " is", told ? 1 : 0, 1);
        }
        Check.due("README.md tells what NO is", readme.contains("`NO` (" + BentYards.NO + ",") ? 1 : 0, 1);
    }
}
