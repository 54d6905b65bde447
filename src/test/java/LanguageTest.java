import java.lang.reflect.Field;
import java.lang.reflect.Method;
import java.lang.reflect.Modifier;
import java.nio.file.Files;
import java.nio.file.Path;
import java.util.ArrayList;
import java.util.Arrays;
import java.util.HashSet;
import java.util.List;
import java.util.Map;
import java.util.Set;
import java.util.TreeMap;
import java.util.TreeSet;
import java.util.regex.Matcher;
import java.util.regex.Pattern;

/** The rules of LANGUAGE.md that the class's members and its text show; each answer's name begins with the rule. */
public final class LanguageTest {
    private static final Due due = new Due();
    private static final Set<String> OPEN = new HashSet<>();
    /** What stands in each method, by its name; methods of one name stand together. */
    private static final Map<String, String> BODIES = new TreeMap<>();
    private static final Set<String> CONSTRUCTORS = new TreeSet<>();
    private static final Set<String> LIBRARY = Set.of("abs", "min", "max", "bitCount", "arraycopy", "length", "charAt");

    public static void main(String[] args) throws Exception {
        for (String member : FaceTest.FACE.split(" ")) {
            OPEN.add(member.replaceAll("[0-9]L?$", ""));
        }
        List<Class<?>> all = new ArrayList<>(Arrays.asList(BathBorder.class.getDeclaredClasses()));
        all.add(BathBorder.class);
        due.holds("11 twelve classes at most", all.size() <= 12);
        for (Class<?> c : all) {
            classInside(c);
            fields(c);
            methods(c);
        }
        String source = Files.readString(Path.of("src/main/java/BathBorder.java"));
        String code = source.replaceAll("(?s)/\\*.*?\\*/", "").replaceAll("//[^\n]*", "").replaceAll("\"[^\"\n]*\"", "\"\"");
        due.holds("4 plain signs", source.chars().allMatch(c -> c == '\n' || c >= 32 && c < 127));
        words(code);
        library(code);
        split(code.split("\n"));
        calls();
        objects();
        loops(code.split("\n"));
        due.end();
    }

    private static void classInside(Class<?> c) {
        if (c != BathBorder.class) {
            due.holds("1, 2 " + c + " is static and not public",
                Modifier.isStatic(c.getModifiers()) && !Modifier.isPublic(c.getModifiers()));
            due.is("2 " + c + " has no class inside", 0, c.getDeclaredClasses().length);
        }
        due.holds("6 " + c + " extends nothing", c.getSuperclass() == Object.class && c.getInterfaces().length == 0);
    }

    private static void fields(Class<?> c) {
        Set<String> types = new HashSet<>(Arrays.asList("int", "long", "boolean", "int[]", "long[]"));
        for (Class<?> own : BathBorder.class.getDeclaredClasses()) {
            types.add(own.getSimpleName());
            types.add(own.getSimpleName() + "[]");
        }
        int fields = 0;
        for (Field f : c.getDeclaredFields()) {
            String type = f.getType().getSimpleName();
            due.holds("3 " + f + " is of a listed type", types.contains(type));
            if (Modifier.isStatic(f.getModifiers())) {
                due.holds("5 " + f + " is final", Modifier.isFinal(f.getModifiers()));
                due.holds("5 " + f + " is a constant", Arrays.asList("int", "long", "int[]").contains(type));
            } else {
                fields++;
            }
        }
        due.holds("11 " + c + " has twenty fields at most", fields <= 20);
    }

    private static void methods(Class<?> c) {
        for (Method m : c.getDeclaredMethods()) {
            due.holds("11 " + m + " takes seven at most", m.getParameterCount() <= 7);
            boolean isFace = c == BathBorder.class && Modifier.isPublic(m.getModifiers());
            due.holds("1 " + m + " bears no public name", isFace || !OPEN.contains(m.getName()));
        }
    }

    private static void words(String code) {
        String[] none = {"throw", "throws", "try", "catch", "synchronized", "assert", "import", "package", "native", "volatile",
            "transient", "strictfp", "double", "float", "Object", "Runnable", "Thread", "equals", "hashCode", "toString",
            "getClass", "instanceof", "yield", "var", "goto"};
        for (String word : none) {
            due.holds("4, 6, 13 no " + word, !Pattern.compile("\\b" + word + "\\b").matcher(code).find());
        }
        due.holds("2 no lambda", !code.contains("->") && !code.contains("::"));
        due.holds("5 no static block", !Pattern.compile("static\\s*\\{").matcher(code).find());
        due.holds("5 no fixed array is written to", !Pattern.compile("\\b[A-Z_]{2,}\\[[^]]*\\]\\s*[-+*/|&^]?=[^=]").matcher(code).find());
        due.holds("10 no text is joined by +", !Pattern.compile("\"\"\\s*\\+|\\+\\s*\"\"").matcher(code).find());
        Matcher cast = Pattern.compile("\\((\\w+)\\) ?[\\w(]").matcher(code);
        while (cast.find()) {
            boolean isCast = Character.isUpperCase(cast.group(1).charAt(0)) || "byte short int long char".contains(cast.group(1));
            due.holds("6 cast " + cast.group(), !isCast || "byte short".contains(cast.group(1)));
        }
        Matcher divisor = Pattern.compile(" [/%] ([^\\s;)]+)").matcher(code);
        while (divisor.find()) {
            due.holds("7 divides by a constant: " + divisor.group(1), divisor.group(1).matches("(Cells\\.)?(COUNT|COLUMNS)"));
        }
    }

    private static void library(String code) {
        Set<String> fine = Set.of("Math.abs", "Math.min", "Math.max", "Integer.bitCount", "Long.bitCount", "System.arraycopy");
        Matcher library = Pattern.compile("\\b(Math|Integer|Long|System|Arrays|String|Character)\\.\\w+").matcher(code);
        while (library.find()) {
            due.holds("4 " + library.group() + " is listed", fine.contains(library.group()));
        }
    }

    /** A member's first line opens a brace behind a round one; the next brace that stands as far in closes it. */
    private static void split(String[] lines) {
        Pattern head = Pattern.compile("( {4}| {8})((?:[\\w\\[\\]]+ )*)(\\w+)\\([^()]*\\) \\{");
        String name = "";
        String end = "";
        int begin = 0;
        for (int i = 0; i < lines.length; i++) {
            Matcher first = head.matcher(lines[i]);
            if (end.isEmpty() && first.matches()) {
                name = first.group(3);
                end = first.group(1) + "}";
                begin = i;
                if (first.group(2).matches("(public )?")) {
                    CONSTRUCTORS.add(name);
                }
            } else if (!end.isEmpty() && lines[i].equals(end)) {
                end = "";
                due.holds("11 " + name + " has sixty lines at most", i - begin < 60);
            } else if (!end.isEmpty()) {
                BODIES.merge(name, lines[i] + "\n", String::concat);
            }
        }
        due.holds("all acts are found in the text", BODIES.keySet().containsAll(OPEN));
    }

    private static void calls() {
        for (String act : OPEN) {
            int deep = depth(act, new ArrayList<>());
            due.holds("11 " + act + " goes " + deep + " deep", deep <= 8);
        }
        due.holds("11 the constructor goes at most eight deep", depth("BathBorder", new ArrayList<>()) <= 8);
    }

    /** How many calls stand open at once, the library's last ones too. */
    private static int depth(String name, List<String> open) {
        boolean isRecursion = open.contains(name);
        due.holds("8 no recursion: " + open + " " + name, !isRecursion);
        if (isRecursion || LIBRARY.contains(name)) {
            return 1;
        }
        due.holds("11 " + name + " is found in the text", BODIES.containsKey(name));
        List<String> deeper = new ArrayList<>(open);
        deeper.add(name);
        Set<String> called = new TreeSet<>();
        Matcher call = Pattern.compile("\\b(\\w+)\\(").matcher(BODIES.getOrDefault(name, ""));
        while (call.find()) {
            if (!call.group(1).matches("if|for|while|switch|return|super|this")) {
                called.add(call.group(1));
            }
        }
        int most = 0;
        for (String one : called) {
            most = Math.max(most, depth(one, deeper));
        }
        return 1 + most;
    }

    /** All objects and arrays are made by constructors, so that calls, however many, make none. */
    private static void objects() {
        due.is("12 a constructor of each class that has objects", 7, CONSTRUCTORS.size());
        for (Map.Entry<String, String> body : BODIES.entrySet()) {
            boolean makes = Pattern.compile("\\bnew\\b|\\.clone\\(").matcher(body.getValue()).find();
            due.holds("12 " + body.getKey() + " makes nothing", !makes || CONSTRUCTORS.contains(body.getKey()));
        }
    }

    /** A for counts up or down to a bound; a while has a bound in its head, and counts in its first lines. */
    private static void loops(String[] lines) {
        for (int i = 0; i < lines.length; i++) {
            String line = lines[i].strip();
            if (line.startsWith("for (")) {
                due.holds("9 " + line, line.matches("for \\(int (\\w+) = [^;]+; \\1 (<|<=|>=) [^;]+; \\1(\\+\\+|--)\\) \\{"));
            } else if (line.matches(".*\\bwhile \\(.*")) {
                Matcher head = Pattern.compile("while \\((\\w+) < [\\w.]+ && .*\\) \\{").matcher(line);
                boolean isBound = head.matches();
                due.holds("9 " + line, isBound);
                boolean counts = false;
                for (int k = i + 1; isBound && k < lines.length && !lines[k].strip().equals("}"); k++) {
                    counts |= lines[k].strip().equals(head.group(1) + "++;");
                }
                due.holds("9 counts: " + line, counts);
            }
            due.holds("9 no do", !line.matches("do\\b.*"));
        }
    }
}
