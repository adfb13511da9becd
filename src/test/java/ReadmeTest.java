import java.io.IOException;
import java.lang.reflect.Method;
import java.lang.reflect.Modifier;
import java.nio.file.Files;
import java.nio.file.Path;
import java.util.Arrays;
import java.util.Set;
import java.util.TreeSet;
import java.util.regex.Matcher;
import java.util.regex.Pattern;

/** The examples of README.md: each call with the answer that stands behind it, all on one object; every call of the class is among them. */
public final class ReadmeTest {
    private static final Check c = new Check();
    private static final Pattern BLOCK = Pattern.compile("```java\n(.*?)```", Pattern.DOTALL);
    private static final Pattern CALL = Pattern.compile("x\\.(\\w+)\\((.*)\\); *// (-?\\d+)(:.*)?");

    public static void main(String[] args) throws IOException, ReflectiveOperationException {
        c.about("README.md");
        Matcher blocks = BLOCK.matcher(Files.readString(Path.of("README.md")));
        VaultLeases x = new VaultLeases();
        Set<String> missing = new TreeSet<>();
        for (Method m : VaultLeases.class.getDeclaredMethods()) {
            if (Modifier.isPublic(m.getModifiers())) {
                missing.add(m.getName());
            }
        }
        while (blocks.find()) {
            for (String line : blocks.group(1).split("\n")) {
                if (!line.equals("VaultLeases x = new VaultLeases();")) {
                    missing.remove(call(x, line));
                }
            }
        }
        if (!missing.isEmpty()) {
            c.fail("no example calls " + missing);
        }
        c.finish("ReadmeTest");
    }

    /** Which call it was. */
    private static String call(VaultLeases x, String line) throws ReflectiveOperationException {
        Matcher call = CALL.matcher(line);
        if (!call.matches()) {
            c.fail("this is no call with its answer: " + line);
            return "";
        }
        Object[] given = Arrays.stream(call.group(2).split(", *")).filter(one -> !one.isEmpty()).map(Integer::decode).toArray();
        for (Method m : VaultLeases.class.getMethods()) {
            if (m.getName().equals(call.group(1)) && m.getParameterCount() == given.length) {
                c.due(line, ((Number) m.invoke(x, given)).longValue(), Long.parseLong(call.group(3)));
                return call.group(1);
            }
        }
        c.fail("there is no such call: " + line);
        return "";
    }
}
