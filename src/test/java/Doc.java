import java.io.IOException;
import java.nio.file.Files;
import java.nio.file.Path;
import java.util.ArrayList;
import java.util.LinkedHashMap;
import java.util.List;
import java.util.Map;
import java.util.regex.Matcher;
import java.util.regex.Pattern;

/** The public face, the "Terms" and the promises of DOC.md, and which of their words tests have quoted. */
final class Doc {
    private static final Path PLACE = Path.of("../shared/DOC.md");

    private final Map<String, String> texts = new LinkedHashMap<>();
    private final Map<String, boolean[]> quoted = new LinkedHashMap<>();
    private final List<String> face = new ArrayList<>();

    Doc() throws IOException {
        String document = Files.readString(PLACE);
        Matcher members = Pattern.compile("^    (public .*);$", Pattern.MULTILINE).matcher(document);
        while (members.find()) {
            face.add(members.group(1).replaceAll("(\\w+) \\w+(?=[,)])", "$1"));
        }
        Matcher sections = Pattern.compile("^## (Terms|Promise \\d+)(.*?)\n(.*?)(?=^## )", Pattern.DOTALL | Pattern.MULTILINE)
            .matcher(document);
        while (sections.find()) {
            String text = sections.group(3).replace("```text", " ").replace("```", " ").replaceAll("`\\w+ \\w+\\([\\w ,]*\\)`:|`VaultLeases\\(\\)`:", " ");
            texts.put(sections.group(1), plain(text));
            quoted.put(sections.group(1), new boolean[plain(text).length()]);
        }
    }

    private static String plain(String text) {
        return text.trim().replaceAll("\\s+", " ");
    }

    /** Whether the section says so in these words; they are quoted then, wherever they stand in it. */
    boolean says(String section, String words) {
        String text = texts.getOrDefault(section, "");
        int at = text.indexOf(words);
        boolean so = at >= 0;
        while (at >= 0) {
            for (int i = at; i < at + words.length(); i++) {
                quoted.get(section)[i] = true;
            }
            at = text.indexOf(words, at + 1);
        }
        return so;
    }

    /** The members of "The public face", without the names of parameters. */
    List<String> face() {
        return face;
    }

    int promises() {
        return (int) texts.keySet().stream().filter(name -> name.startsWith("Promise")).count();
    }

    /** What no test has quoted. */
    List<String> unquoted() {
        List<String> all = new ArrayList<>();
        for (Map.Entry<String, String> section : texts.entrySet()) {
            StringBuilder run = new StringBuilder();
            boolean[] marks = quoted.get(section.getKey());
            for (int i = 0; i <= marks.length; i++) {
                if (i < marks.length && !marks[i]) {
                    run.append(section.getValue().charAt(i));
                } else {
                    if (run.toString().matches(".*[A-Za-z0-9].*")) {
                        all.add(section.getKey() + ": " + run.toString().trim());
                    }
                    run.setLength(0);
                }
            }
        }
        return all;
    }
}
