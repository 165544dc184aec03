import java.io.IOException;
import java.io.UncheckedIOException;
import java.nio.charset.StandardCharsets;
import java.nio.file.Files;
import java.nio.file.Path;
import java.util.Map;
import java.util.TreeMap;

/** The document's terms and promises, and which of their words the tests have quoted. */
final class Document {
    private static final Path FILE = Path.of("../shared/DOC.md");
    private static final Map<String, String> SECTIONS = sections();
    private static final Map<String, boolean[]> QUOTED = new TreeMap<>();

    private Document() {
    }

    private static Map<String, String> sections() {
        Map<String, String> sections = new TreeMap<>();
        if (!Files.isReadable(FILE)) {
            System.out.println("no " + FILE + ": quotes are not held against it");
            return sections;
        }
        try {
            for (String part : Files.readString(FILE, StandardCharsets.UTF_8).split("(?m)^## ")) {
                int head = part.indexOf('\n');
                sections.put(part.substring(0, head).replaceAll(":.*", ""), bare(part.substring(head)));
            }
        } catch (IOException fault) {
            throw new UncheckedIOException(fault);
        }
        return sections;
    }

    /** A section without headings, signatures and marks, in one line. */
    private static String bare(String section) {
        return section.replaceAll("(?m)^([A-Z, ]+|Ahead of the calls .*)$", "")
            .replaceAll("\\A\\s*`[^`]*`:", "")
            .replaceAll("(?m)^\\s*- ", " ")
            .replace("`", "")
            .replaceAll("\\s+", " ")
            .strip();
    }

    static void quote(String section, String words) {
        if (SECTIONS.isEmpty()) {
            return;
        }
        String text = SECTIONS.getOrDefault(section, "");
        int start = text.indexOf(words);
        Check.due("the document says in " + section + " \"" + words + "\"", start >= 0 ? 1 : 0, 1);
        boolean[] quoted = QUOTED.computeIfAbsent(section, any -> new boolean[text.length()]);
        while (start >= 0) {
            for (int i = start; i < start + words.length(); i++) {
                quoted[i] = true;
            }
            start = text.indexOf(words, start + 1);
        }
    }

    /** Each sentence of the terms and of the promises is quoted by some test. */
    static void allIsQuoted() {
        for (Map.Entry<String, String> section : SECTIONS.entrySet()) {
            String name = section.getKey();
            if (name.equals("Terms") || name.startsWith("Promise ")) {
                Check.due("what no test quotes of " + name, notQuoted(name, section.getValue()), "");
            }
        }
    }

    private static String notQuoted(String name, String text) {
        boolean[] quoted = QUOTED.getOrDefault(name, new boolean[text.length()]);
        StringBuilder rest = new StringBuilder();
        for (int i = 0; i < text.length(); i++) {
            rest.append(quoted[i] ? ' ' : text.charAt(i));
        }
        return rest.toString().replaceAll("\\s+", " ").strip();
    }
}
