import java.lang.reflect.Constructor;
import java.lang.reflect.Field;
import java.lang.reflect.Method;
import java.lang.reflect.Modifier;
import java.nio.charset.StandardCharsets;
import java.nio.file.Files;
import java.nio.file.Path;
import java.util.ArrayList;
import java.util.List;
import java.util.Map;
import java.util.Set;
import java.util.TreeMap;
import java.util.TreeSet;
import java.util.regex.Matcher;
import java.util.regex.Pattern;

/** The rules of LANGUAGE.md that can be seen by reflection or in the text of the source. */
public final class LanguageTest {
    private static final String SOURCE = "src/main/java/TaleHoles.java";

    private static final Set<String> FACE = Set.of("int addWord(int, int)", "int setEnding(int, int, int, int)",
        "int readTale()", "int setTie(int, int, int)", "int fill(int, int)", "int empty(int)", "int fillAll()",
        "int set(int)", "int type(char)", "int clearText()", "int fault(boolean)", "int undo()", "int keep()",
        "int restore()", "int word(int, int)", "int letter(int, int, int)", "int hole(int, int)", "int tie(int, int)",
        "int told(int)", "int reason(int, int)", "int fits(int)", "int tieCould(int, boolean)", "int count(int)");

    private static final Set<String> CONSTANTS = Set.of("UNKNOWN", "BAD_VALUE", "FULL", "NONE", "REFUSED");

    private static final Set<String> FORBIDDEN = Set.of("throw", "throws", "try", "catch", "finally", "synchronized",
        "assert", "import", "package", "native", "volatile", "transient", "protected", "instanceof", "var", "equals",
        "hashCode", "toString", "getClass", "float", "double");

    /** All that the class needs of the library. */
    private static final Set<String> LIBRARY = Set.of("System.arraycopy", "Math.min", "Math.max");

    public static void main(String[] args) throws Exception {
        rule1Face();
        rule1Names();
        rule5StaticFields();
        rule11Sizes();
        String source = Files.readString(Path.of(SOURCE), StandardCharsets.UTF_8);
        rule3Signs(source);
        String bare = bare(source);
        rule4Library(bare);
        rule6Words(bare);
        rule11Methods(bare);
        Check.end();
    }

    private static List<Class<?>> classes() {
        List<Class<?>> classes = new ArrayList<>(List.of(TaleHoles.class.getDeclaredClasses()));
        for (Class<?> inside : classes) {
            Check.due("rule 1: " + inside + " is static", Modifier.isStatic(inside.getModifiers()) ? 1 : 0, 1);
            Check.due("rule 1: " + inside + " is not public", inside.getModifiers() & (Modifier.PUBLIC | Modifier.PROTECTED), 0);
            Check.due("rule 2: " + inside + " has no classes", inside.getDeclaredClasses().length, 0);
        }
        classes.add(TaleHoles.class);
        return classes;
    }

    private static void rule1Face() {
        Set<String> face = new TreeSet<>();
        for (Method method : TaleHoles.class.getDeclaredMethods()) {
            if (!Modifier.isPrivate(method.getModifiers())) {
                String call = method.toString().replace("TaleHoles.", "").replace("public ", "").replace(",", ", ");
                face.add(call);
            }
        }
        Check.due("rule 1: methods", face.toString(), new TreeSet<>(FACE).toString());
        Set<String> constants = new TreeSet<>();
        for (Field field : TaleHoles.class.getDeclaredFields()) {
            if (!Modifier.isPrivate(field.getModifiers())) {
                constants.add(field.getName());
            }
        }
        Check.due("rule 1: constants", constants.toString(), new TreeSet<>(CONSTANTS).toString());
        Constructor<?>[] constructors = TaleHoles.class.getDeclaredConstructors();
        Check.due("rule 1: constructors", constructors.length, 1);
        Check.due("rule 1: its arguments", constructors[0].getParameterCount(), 0);
        int due = Modifier.PUBLIC | Modifier.FINAL;
        Check.due("rule 1: public and final", TaleHoles.class.getModifiers() & due, due);
    }

    private static void rule1Names() {
        Set<String> names = new TreeSet<>();
        for (String call : FACE) {
            names.add(call.substring(4, call.indexOf('(')));
        }
        for (Class<?> owner : classes()) {
            for (Method method : owner.getDeclaredMethods()) {
                boolean bears = Modifier.isPrivate(method.getModifiers()) || owner != TaleHoles.class;
                Check.due("rule 1: the name of " + method, bears && names.contains(method.getName()) ? 1 : 0, 0);
            }
        }
    }

    private static void rule5StaticFields() {
        for (Class<?> owner : classes()) {
            for (Field field : owner.getDeclaredFields()) {
                boolean fine = !Modifier.isStatic(field.getModifiers())
                    || Modifier.isFinal(field.getModifiers()) && field.getType().isPrimitive();
                Check.due("rule 5: " + field, fine ? 1 : 0, 1);
            }
        }
    }

    private static void rule11Sizes() {
        Check.due("rule 11: at most twelve classes", classes().size() <= 12 ? 1 : 0, 1);
        for (Class<?> owner : classes()) {
            int fields = 0;
            for (Field field : owner.getDeclaredFields()) {
                fields += Modifier.isStatic(field.getModifiers()) ? 0 : 1;
            }
            Check.due("rule 11: fields of " + owner, fields <= 20 ? 1 : 0, 1);
            for (Method method : owner.getDeclaredMethods()) {
                Check.due("rule 11: arguments of " + method, method.getParameterCount() <= 7 ? 1 : 0, 1);
            }
        }
    }

    private static void rule3Signs(String source) {
        for (int i = 0; i < source.length(); i++) {
            if (source.charAt(i) > 126) {
                Check.due("rule 3: the sign at " + i, source.charAt(i), '?');
            }
        }
    }

    /** The source without its comments, and with its signs and strings emptied. */
    private static String bare(String source) {
        String bare = source.replaceAll("(?s)/\\*.*?\\*/", "").replaceAll("//[^\n]*", "");
        return bare.replaceAll("'[^']*'", "'").replaceAll("\"[^\"\n]*\"", "''");
    }

    private static void rule4Library(String bare) {
        Set<String> own = new TreeSet<>();
        for (Class<?> owner : classes()) {
            own.add(owner.getSimpleName());
        }
        Matcher name = Pattern.compile("(?<![\\w.])([A-Z][a-z]\\w*)(\\.\\w+)?").matcher(bare);
        while (name.find()) {
            boolean known = own.contains(name.group(1)) || LIBRARY.contains(name.group());
            Check.due("rule 4: " + name.group(), known ? 1 : 0, 1);
        }
    }

    private static void rule6Words(String bare) {
        Matcher word = Pattern.compile("[A-Za-z_]\\w*|->|::").matcher(bare);
        while (word.find()) {
            boolean forbidden = FORBIDDEN.contains(word.group()) || !Character.isLetter(word.group().charAt(0));
            Check.due("rules 2 and 6: " + word.group(), forbidden ? 1 : 0, 0);
        }
    }

    /** A method begins with a line that is indented by 4 or 8 and ends with the brace below its begin. */
    private static void rule11Methods(String bare) {
        Map<String, String> bodies = new TreeMap<>();
        Matcher method = Pattern.compile("(?ms)^( {4}| {8})(?:private|public) (?:static )?[\\w\\[\\]]+ (\\w+)\\([^;{]*\\) \\{$.*?^\\1\\}$").matcher(bare);
        while (method.find()) {
            int lines = method.group().split("\n").length;
            Check.due("rule 11: lines of " + method.group(2), lines <= 60 ? 1 : 0, 1);
            String body = method.group().substring(method.group().indexOf('{'));
            Check.due("rule 11: methods named " + method.group(2), bodies.put(method.group(2), body) == null ? 1 : 2, 1);
        }
        int methods = 0;
        for (Class<?> owner : classes()) {
            methods += owner.getDeclaredMethods().length;
        }
        Check.due("rule 11: methods that are found", bodies.size(), methods);
        for (String name : bodies.keySet()) {
            Check.due("rule 11: calls below " + name, depth(name, bodies, 0) <= 8 ? 1 : 0, 1);
        }
    }

    /** How deep calls go from a method, itself counted; names are not shared, so a name tells the method. */
    private static int depth(String name, Map<String, String> bodies, int above) {
        int below = 0;
        Matcher call = Pattern.compile("\\b([a-z]\\w*)\\(").matcher(bodies.get(name));
        while (call.find() && above < 9) {
            if (bodies.containsKey(call.group(1))) {
                below = Math.max(below, depth(call.group(1), bodies, above + 1));
            }
        }
        return 1 + below;
    }
}
