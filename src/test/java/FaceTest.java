import java.io.IOException;
import java.lang.reflect.Constructor;
import java.lang.reflect.Field;
import java.lang.reflect.Method;
import java.lang.reflect.Modifier;
import java.nio.file.Files;
import java.nio.file.Path;
import java.util.Arrays;
import java.util.Set;
import java.util.TreeSet;
import java.util.regex.Matcher;
import java.util.regex.Pattern;

/** The public face, and the rules of LANGUAGE.md that can be seen from outside or in the words of the source. */
public final class FaceTest {
    private static final Set<String> FACE = Set.of("rule 2", "say 1", "put 1", "copy 2", "join 3", "cut 4", "flat 1",
            "sign 2", "hash 1", "told 2", "piece 3", "alike 3", "intern 1", "sweep 0", "entry 2", "count 1", "image 1",
            "restore 1");
    private static final Set<String> CONSTANTS = Set.of("UNKNOWN", "OUTSIDE", "STATE", "FULL", "NONE");
    private static final String[] FORBIDDEN = {"throw", "throws", "try", "catch", "finally", "synchronized", "assert",
        "import", "package", "protected", "System", "Object", "hashCode", "toString", "\\w+Exact", "->", "::",
        "static\\s*\\{"};
    private static int wrong = 0;

    public static void main(String[] args) throws IOException {
        face();
        constants();
        nestedClasses();
        words();
        System.out.println(wrong == 0 ? "the face is the document's" : wrong + " faults of the face");
        if (wrong != 0) {
            System.exit(1);
        }
    }

    private static void check(boolean holds, String what) {
        if (!holds) {
            wrong++;
            System.out.println(what);
        }
    }

    private static void face() {
        check(Modifier.isPublic(RopeShelf.class.getModifiers()), "the class is not public");
        check(Modifier.isFinal(RopeShelf.class.getModifiers()), "the class is not final");
        Constructor<?>[] makers = RopeShelf.class.getDeclaredConstructors();
        check(makers.length == 1 && makers[0].getParameterCount() == 0 && Modifier.isPublic(makers[0].getModifiers()),
                "not the one public constructor");
        Set<String> seen = new TreeSet<>();
        Set<String> names = new TreeSet<>();
        for (String call : FACE) {
            names.add(call.split(" ")[0]);
        }
        for (Method m : RopeShelf.class.getDeclaredMethods()) {
            check(m.getParameterCount() <= 7, "too many parameters: " + m);
            if (Modifier.isPrivate(m.getModifiers())) {
                check(!names.contains(m.getName()), "a private method with a public name: " + m);
                continue;
            }
            boolean ints = m.getReturnType() == int.class
                    && Arrays.stream(m.getParameterTypes()).allMatch(t -> t == int.class);
            check(ints && Modifier.isPublic(m.getModifiers()) && !Modifier.isStatic(m.getModifiers()), "not so: " + m);
            seen.add(m.getName() + " " + m.getParameterCount());
        }
        check(seen.equals(FACE), "the methods are " + seen);
    }

    private static void constants() {
        Set<String> seen = new TreeSet<>();
        for (Field f : RopeShelf.class.getDeclaredFields()) {
            int mods = f.getModifiers();
            check(!Modifier.isStatic(mods) || Modifier.isFinal(mods), "static, not final: " + f);
            if (!Modifier.isPrivate(mods)) {
                check(Modifier.isPublic(mods) && Modifier.isStatic(mods) && f.getType() == int.class, "not so: " + f);
                seen.add(f.getName());
            }
        }
        check(seen.equals(CONSTANTS), "the constants are " + seen);
    }

    private static void nestedClasses() {
        Set<String> names = new TreeSet<>();
        for (String call : FACE) {
            names.add(call.split(" ")[0]);
        }
        Class<?>[] inside = RopeShelf.class.getDeclaredClasses();
        check(inside.length <= 11, "too many classes: " + inside.length);
        for (Class<?> c : inside) {
            check(Modifier.isStatic(c.getModifiers()), "not static: " + c);
            check(!Modifier.isPublic(c.getModifiers()) && !Modifier.isProtected(c.getModifiers()), "too open: " + c);
            for (Method m : c.getDeclaredMethods()) {
                check(!names.contains(m.getName()), "a method inside with a public name: " + m);
            }
            for (Field f : c.getDeclaredFields()) {
                check(!Modifier.isStatic(f.getModifiers()) || Modifier.isFinal(f.getModifiers()), "not final: " + f);
            }
        }
    }

    private static void words() throws IOException {
        String source = Files.readString(Path.of("src/main/java/RopeShelf.java"));
        String code = source.replaceAll("(?s)/\\*.*?\\*/", " ").replaceAll("//[^\n]*", " ");
        for (String word : FORBIDDEN) {
            String bound = Character.isLetter(word.charAt(0)) || word.startsWith("\\w") ? "\\b" : "";
            Matcher found = Pattern.compile(bound + word + (word.matches(".*\\w$") ? "\\b" : "")).matcher(code);
            check(!found.find(), "the source says " + word);
        }
    }
}
