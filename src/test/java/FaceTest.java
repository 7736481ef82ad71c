import java.io.IOException;
import java.lang.reflect.Constructor;
import java.lang.reflect.Field;
import java.lang.reflect.Method;
import java.lang.reflect.Modifier;
import java.nio.file.Files;
import java.nio.file.Path;
import java.util.ArrayList;
import java.util.List;
import java.util.Set;
import java.util.TreeSet;
import java.util.regex.Matcher;
import java.util.regex.Pattern;

/** The face of the document, and those rules of LANGUAGE.md that can be seen from outside or from the words. */
public final class FaceTest {
    private static final Due due = new Due();
    private static final String[] FORBIDDEN = {"throw", "try", "catch", "finally", "synchronized", "assert", "import",
        "package", "->", "::", "protected", "Exact\\(", "instanceof", "Math\\.random", "System\\.(?!arraycopy)"};

    public static void main(String[] args) throws IOException {
        Path project = Path.of(System.getProperty("project"));
        String source = Files.readString(project.resolve("src/main/java/RegretPegs.java"));
        String doc = Files.readString(project.resolve("../shared/DOC.md"));
        Set<String> face = faceOf(doc);
        methods(face);
        members();
        words(source);
        made(source);
        statics();
        nested(face);
        due.end();
    }

    private static Set<String> faceOf(String doc) {
        String block = doc.substring(doc.indexOf("```java"), doc.indexOf("```", doc.indexOf("```java") + 3));
        Set<String> face = new TreeSet<>();
        Matcher call = Pattern.compile("public (\\w+) (\\w+)\\(([^)]*)\\);").matcher(block);
        while (call.find()) {
            face.add(call.group(1) + " " + call.group(2) + "(" + call.group(3).replaceAll(" \\w+(,|$)", "$1") + ")");
        }
        return face;
    }

    private static void methods(Set<String> face) {
        Set<String> found = new TreeSet<>();
        for (Method method : RegretPegs.class.getDeclaredMethods()) {
            if (Modifier.isPublic(method.getModifiers())) {
                StringBuilder types = new StringBuilder();
                for (Class<?> type : method.getParameterTypes()) {
                    types.append(types.length() == 0 ? "" : ", ").append(type.getSimpleName());
                }
                found.add(method.getReturnType().getSimpleName() + " " + method.getName() + "(" + types + ")");
            }
        }
        due.is("how many methods the document has", face.size(), 39);
        due.isTrue("the face is the document's: " + found, found.equals(face));
    }

    private static void members() {
        due.isTrue("public and final", Modifier.isPublic(RegretPegs.class.getModifiers())
            && Modifier.isFinal(RegretPegs.class.getModifiers()));
        for (Method method : RegretPegs.class.getDeclaredMethods()) {
            due.isTrue(method.getName() + " is public or private",
                (method.getModifiers() & (Modifier.PUBLIC | Modifier.PRIVATE)) != 0);
        }
        for (Field field : RegretPegs.class.getDeclaredFields()) {
            due.isTrue(field.getName() + " is private", Modifier.isPrivate(field.getModifiers()));
        }
        Constructor<?>[] constructors = RegretPegs.class.getDeclaredConstructors();
        due.is("constructors", constructors.length, 1);
        due.isTrue("a public one", Modifier.isPublic(constructors[0].getModifiers()));
    }

    private static void words(String source) {
        String code = source.replaceAll("(?s)/\\*.*?\\*/", " ").replaceAll("//[^\n]*", " ");
        for (String word : FORBIDDEN) {
            boolean letters = Character.isLetter(word.charAt(0)) && Character.isLetter(word.charAt(word.length() - 1));
            Pattern pattern = Pattern.compile(letters ? "\\b" + word + "\\b" : word);
            due.isTrue("no " + word, !pattern.matcher(code).find());
        }
        due.isTrue("signs 1 to 127 alone", source.chars().allMatch(c -> c > 0 && c < 128));
    }

    /** All calls of a run share one room: rows are made by constructors alone, so only a final field's line makes one. */
    private static void made(String source) {
        for (String line : source.split("\n")) {
            if (Pattern.compile("\\bnew\\b|\\.clone\\(|Arrays\\.").matcher(line.replaceAll("//.*", "")).find()) {
                due.isTrue("made by a constructor: " + line.trim(),
                    line.matches(" +(private )?final [\\w\\[\\]]+ \\w+ = (new .*|\\{new .*\\});"));
            }
        }
    }

    /** LANGUAGE.md, 5: static fields are final, of int, long, boolean, char, String, or rows of int, long, char, byte. */
    private static void statics() {
        Set<String> types = Set.of("int", "long", "boolean", "char", "String", "int[]", "long[]", "char[]", "byte[]");
        List<Class<?>> classes = new ArrayList<>(List.of(RegretPegs.class.getDeclaredClasses()));
        classes.add(RegretPegs.class);
        for (Class<?> one : classes) {
            for (Field field : one.getDeclaredFields()) {
                if (Modifier.isStatic(field.getModifiers())) {
                    due.isTrue(field + " is a constant",
                        Modifier.isFinal(field.getModifiers()) && types.contains(field.getType().getSimpleName()));
                }
            }
        }
    }

    private static void nested(Set<String> face) {
        Set<String> names = new TreeSet<>();
        for (String call : face) {
            names.add(call.substring(call.indexOf(' ') + 1, call.indexOf('(')));
        }
        Class<?>[] classes = RegretPegs.class.getDeclaredClasses();
        due.isTrue("at most twelve classes", classes.length < 12);
        for (Class<?> inside : classes) {
            due.isTrue(inside + " is static", Modifier.isStatic(inside.getModifiers()));
            due.isTrue(inside + " is not public", !Modifier.isPublic(inside.getModifiers()));
            for (Method method : inside.getDeclaredMethods()) {
                due.isTrue(method + " bears no public name", !names.contains(method.getName()));
                due.isTrue(method + " has at most seven parameters", method.getParameterCount() <= 7);
            }
        }
        for (Method method : RegretPegs.class.getDeclaredMethods()) {
            due.isTrue(method + " bears no public name",
                Modifier.isPublic(method.getModifiers()) || !names.contains(method.getName()));
        }
    }
}
