import java.lang.reflect.Constructor;
import java.lang.reflect.Field;
import java.lang.reflect.Method;
import java.lang.reflect.Modifier;
import java.nio.file.Files;
import java.nio.file.Path;
import java.util.ArrayList;
import java.util.Arrays;
import java.util.HashSet;
import java.util.List;
import java.util.Set;
import java.util.TreeSet;
import java.util.regex.Matcher;
import java.util.regex.Pattern;

/** The public face, and the rules of LANGUAGE.md that the class file and the text show. */
public final class FaceTest {
    private static final Due due = new Due();
    private static final String FACE = "fill3 cell2 guard2 sight1 bather2 of2 change3 go1 now1 seen0L ahead2 out1 caught1 meet2 "
        + "kindFor1 sightFor1 way2 next2 steamFor2 row0 post1 posted1 trap2 enough0 fits1 swaps0 swap2 tax2 boilers2L "
        + "steams1 seed1 feed2 wipe0 text0 hold2 as2 sheet3 write3 copy5 load1 judge1 image0 undo0 tear0 count1 status1";

    public static void main(String[] args) throws Exception {
        face();
        classesInside();
        text(Files.readString(Path.of("src/main/java/BathBorder.java")));
        due.end();
    }

    private static void face() {
        Set<String> wanted = new TreeSet<>(Arrays.asList(FACE.split(" ")));
        Set<String> has = new TreeSet<>();
        for (Method m : BathBorder.class.getDeclaredMethods()) {
            if (Modifier.isPublic(m.getModifiers())) {
                has.add(m.getName() + m.getParameterCount() + (m.getReturnType() == long.class ? "L" : ""));
                for (Class<?> p : m.getParameterTypes()) {
                    due.holds(m.getName() + " takes ints", p == int.class);
                }
            } else {
                due.holds(m.getName() + " is private", Modifier.isPrivate(m.getModifiers()));
            }
        }
        due.holds("the face is " + wanted + ", not " + has, wanted.equals(has));
        due.is("47 promises", 47, has.size() + 1);
        due.holds("public and final", Modifier.isPublic(BathBorder.class.getModifiers())
            && Modifier.isFinal(BathBorder.class.getModifiers()));
        Constructor<?>[] constructors = BathBorder.class.getDeclaredConstructors();
        due.is("one constructor", 1, constructors.length);
        due.holds("a public one", Modifier.isPublic(constructors[0].getModifiers()));
        for (Field f : BathBorder.class.getDeclaredFields()) {
            due.holds(f.getName() + " is private", Modifier.isPrivate(f.getModifiers()));
        }
    }

    private static void classesInside() {
        Set<String> open = new HashSet<>();
        for (String member : FACE.split(" ")) {
            open.add(member.replaceAll("[0-9]L?$", ""));
        }
        List<Class<?>> all = new ArrayList<>(Arrays.asList(BathBorder.class.getDeclaredClasses()));
        for (Class<?> c : all) {
            due.holds(c + " is static and not public",
                Modifier.isStatic(c.getModifiers()) && !Modifier.isPublic(c.getModifiers()));
            for (Method m : c.getDeclaredMethods()) {
                due.holds(m + " bears no public name", !open.contains(m.getName()));
            }
        }
        all.add(BathBorder.class);
        due.holds("twelve classes at most", all.size() <= 12);
        for (Class<?> c : all) {
            int fields = 0;
            for (Field f : c.getDeclaredFields()) {
                fields += Modifier.isStatic(f.getModifiers()) ? 0 : 1;
                due.holds(f + " is final if static",
                    !Modifier.isStatic(f.getModifiers()) || Modifier.isFinal(f.getModifiers()));
            }
            due.holds(c + " has twenty fields at most", fields <= 20);
            for (Method m : c.getDeclaredMethods()) {
                due.holds(m + " takes seven at most", m.getParameterCount() <= 7);
                boolean samePublic = c == BathBorder.class && !Modifier.isPublic(m.getModifiers());
                due.holds(m + " bears no public name", !samePublic || !open.contains(m.getName()));
            }
        }
    }

    private static void text(String source) {
        String code = source.replaceAll("(?s)/\\*.*?\\*/", "").replaceAll("//[^\n]*", "").replaceAll("\"[^\"\n]*\"", "\"\"");
        String[] none = {"throw", "throws", "try", "catch", "synchronized", "assert", "import", "package", "native", "volatile",
            "transient", "Object", "Runnable", "Thread", "equals", "hashCode", "toString", "getClass"};
        for (String word : none) {
            due.holds("no " + word, !Pattern.compile("\\b" + word + "\\b").matcher(code).find());
        }
        due.holds("no lambda", !code.contains("->") && !code.contains("::"));
        due.holds("no static block", !Pattern.compile("static\\s*\\{").matcher(code).find());
        due.holds("plain signs", source.chars().allMatch(c -> c == '\n' || c >= 32 && c < 127));
        Set<String> fine = Set.of("Math.abs", "Math.min", "Math.max", "Integer.bitCount", "Long.bitCount", "System.arraycopy");
        Matcher library = Pattern.compile("\\b(Math|Integer|Long|System|Arrays|String|Character)\\.\\w+").matcher(code);
        while (library.find()) {
            due.holds(library.group() + " is listed", fine.contains(library.group()));
        }
        lengths(source.split("\n"));
    }

    /** A method's first line opens a brace behind a round one, its last closes it, four or eight signs in. */
    private static void lengths(String[] lines) {
        int begin = 0;
        for (int i = 0; i < lines.length; i++) {
            if (lines[i].matches("( {4}| {8})[a-zA-Z].*\\).*\\{")) {
                begin = i;
            }
            if (begin > 0 && lines[i].matches("( {4}| {8})\\}")) {
                due.holds("what ends in line " + (i + 1) + " has sixty lines at most", i - begin < 60);
            }
        }
    }
}
