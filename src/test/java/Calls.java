import java.io.PrintWriter;
import java.io.StringWriter;
import java.util.ArrayList;
import java.util.LinkedHashSet;
import java.util.List;
import java.util.Map;
import java.util.Set;
import java.util.TreeMap;
import java.util.TreeSet;
import java.util.regex.Matcher;
import java.util.regex.Pattern;
import java.util.spi.ToolProvider;

/** Which method calls which, of the classes given: read out of the listing that the JDK's javap makes. */
final class Calls {
    private static final Pattern HEAD = Pattern.compile("^  ((?:[\\w$.\\[\\]]+ )*)([\\w$.]+)\\(.*\\);$");
    private static final Pattern CALL = Pattern.compile("// Method ([\\w$./]+|[\\w$./]*\\.?\"<init>\"):");

    private final Map<String, Set<String>> called = new TreeMap<>();
    private final Set<String> isPrivate = new TreeSet<>();

    Calls(List<Class<?>> classes) {
        for (Class<?> one : classes) {
            read(one.getName(), listing(one));
        }
        // What is left out is the library's.
        called.values().forEach(names -> names.retainAll(called.keySet()));
    }

    private static String listing(Class<?> one) {
        StringWriter text = new StringWriter();
        String path = System.getProperty("java.class.path");
        ToolProvider javap = ToolProvider.findFirst("javap").orElseThrow();
        javap.run(new PrintWriter(text), new PrintWriter(System.out), "-c", "-p", "-cp", path, one.getName());
        return text.toString();
    }

    private void read(String owner, String listing) {
        String method = "";
        for (String line : listing.split("\\R")) {
            Matcher head = HEAD.matcher(line);
            Matcher call = CALL.matcher(line);
            if (head.matches()) {
                method = owner + "." + (head.group(2).equals(owner) ? "\"<init>\"" : head.group(2));
                called.computeIfAbsent(method, k -> new TreeSet<>());
                if (head.group(1).startsWith("private ")) {
                    isPrivate.add(method);
                }
            } else if (call.find() && !method.isEmpty()) {
                String name = call.group(1);
                called.get(method).add(name.contains(".") ? name : owner + "." + name);
            }
        }
    }

    boolean isPrivate(String method) {
        return isPrivate.contains(method);
    }

    /** The longest chain of calls in which no method comes twice. */
    List<String> longest() {
        List<String> best = new ArrayList<>();
        for (String method : called.keySet()) {
            goOn(method, new LinkedHashSet<>(), best);
        }
        return best;
    }

    private void goOn(String method, Set<String> chain, List<String> best) {
        if (!chain.add(method)) {
            return;
        }
        if (chain.size() > best.size()) {
            best.clear();
            best.addAll(chain);
        }
        for (String next : called.get(method)) {
            goOn(next, chain, best);
        }
        chain.remove(method);
    }

    /** The methods from which calls lead back to them. */
    Set<String> recursive() {
        Set<String> all = new TreeSet<>();
        for (String method : called.keySet()) {
            Set<String> reached = new TreeSet<>();
            reach(method, reached);
            if (reached.contains(method)) {
                all.add(method);
            }
        }
        return all;
    }

    private void reach(String method, Set<String> reached) {
        for (String next : called.get(method)) {
            if (reached.add(next)) {
                reach(next, reached);
            }
        }
    }
}
