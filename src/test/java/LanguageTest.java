import java.io.IOException;
import java.lang.reflect.Field;
import java.lang.reflect.Member;
import java.lang.reflect.Method;
import java.lang.reflect.Modifier;
import java.nio.file.Files;
import java.nio.file.Path;
import java.util.ArrayList;
import java.util.Arrays;
import java.util.List;
import java.util.Random;
import java.util.Set;
import java.util.TreeSet;
import java.util.regex.Matcher;
import java.util.regex.Pattern;

/** The face of the document, the rules of LANGUAGE.md that can be looked up, and the room a run takes. */
public final class LanguageTest {
    private static final Check c = new Check();
    private static final int DEEPEST = 8;

    public static void main(String[] args) throws IOException {
        face();
        members();
        words();
        methods();
        calls();
        room();
        c.finish("LanguageTest");
    }

    private static List<Class<?>> classes() {
        List<Class<?>> all = new ArrayList<>(List.of(VaultLeases.class));
        all.addAll(Arrays.asList(VaultLeases.class.getDeclaredClasses()));
        return all;
    }

    private static void must(boolean so, String what) {
        c.due(what, so ? 1 : 0, 1);
    }

    private static void face() throws IOException {
        c.about("rule 1");
        Set<String> due = new TreeSet<>(new Doc().face());
        Set<String> is = new TreeSet<>();
        Set<String> names = new TreeSet<>();
        for (Method m : VaultLeases.class.getDeclaredMethods()) {
            if (!Modifier.isPrivate(m.getModifiers())) {
                List<String> types = Arrays.stream(m.getParameterTypes()).map(Class::getName).toList();
                is.add("public " + m.getReturnType() + " " + m.getName() + "(" + String.join(", ", types) + ")");
                names.add(m.getName());
                must(Modifier.isPublic(m.getModifiers()) && !Modifier.isStatic(m.getModifiers()), m + " is public");
            }
        }
        is.add("public VaultLeases()");
        is.add("public static final int NONE = " + VaultLeases.NONE);
        is.add("public static final int NOTHING = " + VaultLeases.NOTHING);
        must(is.equals(due), "the face of the document, " + due + ", is that of the class, " + is);
        for (Class<?> one : classes()) {
            for (Method m : one.getDeclaredMethods()) {
                must(one == VaultLeases.class && Modifier.isPublic(m.getModifiers()) || !names.contains(m.getName()), m + " has a name of its own");
            }
        }
        must(VaultLeases.class.getModifiers() == (Modifier.PUBLIC | Modifier.FINAL), "the class is public and final");
        must(VaultLeases.class.getDeclaredConstructors().length == 1, "one constructor");
        must(Modifier.isPublic(VaultLeases.class.getDeclaredConstructors()[0].getModifiers()), "it is public");
    }

    private static void members() {
        c.about("rules 1, 2, 3, 5, 11");
        must(classes().size() <= 12, "some twelve classes");
        for (Class<?> one : classes()) {
            boolean inside = one != VaultLeases.class;
            must(!inside || Modifier.isStatic(one.getModifiers()), one + " is static");
            must(one.getDeclaredClasses().length == 0 || !inside, one + " has none inside");
            long fields = Arrays.stream(one.getDeclaredFields()).filter(f -> !Modifier.isStatic(f.getModifiers())).count();
            must(fields <= 20, one + " has some twenty fields");
            for (Field f : one.getDeclaredFields()) {
                field(f, inside);
            }
            for (Method m : one.getDeclaredMethods()) {
                must(m.getParameterCount() <= 7, m + " takes seven at most");
                must(!m.isSynthetic(), m + " is written out");
            }
        }
    }

    private static void field(Field f, boolean inside) {
        boolean isPublic = Set.of("NONE", "NOTHING").contains(f.getName()) && !inside;
        must(inside || Modifier.isPublic(f.getModifiers()) == isPublic, f + " is public only if promised");
        must(inside || isPublic || Modifier.isPrivate(((Member) f).getModifiers()), f + " is private otherwise");
        if (Modifier.isStatic(f.getModifiers())) {
            must(Modifier.isFinal(f.getModifiers()), f + " is final");
            must(Set.of("int", "long", "boolean", "char", "java.lang.String", "[I", "[J", "[C", "[B").contains(f.getType().getName()), f + " is a constant");
        }
    }

    private static String source() throws IOException {
        String text = Files.readString(Path.of("src/main/java/VaultLeases.java"));
        must(text.chars().allMatch(sign -> sign == '\n' || sign >= 32 && sign < 127), "plain signs alone");
        return Pattern.compile("/\\*.*?\\*/|//[^\n]*", Pattern.DOTALL).matcher(text).replaceAll(" ");
    }

    private static void words() throws IOException {
        c.about("rules 4, 6, 13");
        String text = source();
        for (String word : List.of("throw", "throws", "try", "catch", "finally", "synchronized", "assert", "import", "package", "Object",
            "Exception", "Thread", "Class", "var", "yield", "native", "volatile", "transient", "hashCode", "double", "float")) {
            must(!Pattern.compile("\\b" + word + "\\b").matcher(text).find(), "no " + word);
        }
        must(!text.contains("->") && !text.contains("::") && !text.contains("static {"), "no lambda, no static block");
        must(!Pattern.compile("\"\\s*\\+|\\+\\s*\"").matcher(text).find(), "no texts joined by +");
        Matcher library = Pattern.compile("\\b(System|Math|Integer|Long|Arrays|String)\\.(\\w+)").matcher(text);
        while (library.find()) {
            must(Set.of("System.arraycopy", "Math.min", "Math.max", "Integer.bitCount").contains(library.group()), library.group());
        }
        Matcher loops = Pattern.compile("\\b(while|do)\\b").matcher(text);
        must(!loops.find(), "every loop counts");
    }

    private static void methods() throws IOException {
        c.about("rule 11");
        int length = 0;
        String name = "";
        for (String line : source().split("\n")) {
            Matcher head = Pattern.compile("^(?:    |        )(?:\\w+(?:\\[\\])? )+(\\w+)\\(.*\\{$").matcher(line);
            if (head.find()) {
                name = head.group(1);
                length = 0;
            }
            length++;
            must(length <= 60 || !line.matches("^(?:    |        )\\}$"), name + " is short");
        }
    }

    private static void calls() {
        c.about("rules 8, 11");
        Calls calls = new Calls(classes());
        List<String> longest = calls.longest();
        must(longest.size() > 1 && longest.size() <= DEEPEST, "calls go eight deep at most: " + longest);
        for (String name : calls.recursive()) {
            must(calls.isPrivate(name), name + ", which comes back to itself, is private");
        }
    }

    /** What the dearest run of 512 calls takes, the making of the object too. */
    private static void room() {
        c.about("one room");
        var threads = (com.sun.management.ThreadMXBean) java.lang.management.ManagementFactory.getThreadMXBean();
        String law = "lasts 1" + "+1".repeat(49) + ";bars".repeat(11) + " if " + "not ".repeat(55) + "[[1]]";
        long making = taken(threads, x -> { }, 1);
        must(making < 64 * 1024, "a new object takes " + making + " bytes");
        for (Runs one : List.<Runs>of(x -> x.centuries(7, 60), x -> x.rooms(0), x -> x.packed(1), x -> x.keep(0, 99, 2),
            x -> x.when(0, 1), x -> x.few(20, 99), x -> x.changes(-1), x -> x.image(0), x -> x.back(0), x -> x.pass(),
            x -> x.undo(), x -> x.look(1), x -> x.compare(0), x -> Check.orders(x, "pass times 20;knock 7"))) {
            long run = taken(threads, one, 400) - making;
            must(run < 400 * 1024, "400 calls take " + run + " bytes");
        }
        long laws = taken(threads, x -> {
            x.image(1);
            Check.law(x, law);
            x.back(1);
        }, 20);
        must(laws < 256 * 1024, "laws again and again take " + laws + " bytes");
    }

    interface Runs {
        void on(VaultLeases x);
    }

    private static long taken(com.sun.management.ThreadMXBean threads, Runs run, int times) {
        long least = Long.MAX_VALUE;
        for (int i = 0; i < 3; i++) {
            long before = threads.getThreadAllocatedBytes(Thread.currentThread().getId());
            VaultLeases x = new VaultLeases();
            Random random = new Random(1);
            for (int j = 0; j < 5; j++) {
                x.vault(3);
                x.family(900);
            }
            for (int j = 0; j < 8; j++) {
                x.dead(j % 4, j % 5, 1 + random.nextInt(90));
            }
            x.image(0);
            for (int j = 0; j < times; j++) {
                run.on(x);
            }
            least = Math.min(least, threads.getThreadAllocatedBytes(Thread.currentThread().getId()) - before);
        }
        return least;
    }
}
