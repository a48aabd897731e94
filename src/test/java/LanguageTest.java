import java.io.IOException;
import java.lang.reflect.Constructor;
import java.lang.reflect.Field;
import java.lang.reflect.Method;
import java.lang.reflect.Modifier;
import java.nio.charset.StandardCharsets;
import java.nio.file.Files;
import java.nio.file.Path;
import java.util.ArrayList;
import java.util.Arrays;
import java.util.List;
import java.util.Set;
import java.util.TreeSet;
import java.util.regex.Matcher;
import java.util.regex.Pattern;

/** The document's face, and those rules of LANGUAGE.md that can be seen from the class or its text. */
public final class LanguageTest {
    private static final Due due = new Due("LanguageTest");
    private static final Path SOURCE = Path.of("src/main/java/BeltHall.java");
    private static final Path DOCUMENT = Path.of("../shared/DOC.md");

    public static void main(String[] args) throws IOException {
        String source = withoutComments(Files.readString(SOURCE, StandardCharsets.US_ASCII));
        face();
        hiddenMembers();
        nestedClasses();
        words(source);
        objects(source);
        methodLengths(source);
        due.end();
    }

    private static String withoutComments(String text) {
        return text.replaceAll("(?s)/\\*.*?\\*/", "").replaceAll("//[^\n]*", "");
    }

    private static String written(Method m) {
        String[] types = Arrays.stream(m.getParameterTypes()).map(Class::getSimpleName).toArray(String[]::new);
        return m.getReturnType().getSimpleName() + " " + m.getName() + "(" + String.join(", ", types) + ")";
    }

    private static Set<String> faceOfTheDocument() throws IOException {
        Set<String> face = new TreeSet<>();
        Matcher m = Pattern.compile("public (int \\w+)\\((.*)\\);").matcher(Files.readString(DOCUMENT));
        while (m.find()) {
            face.add(m.group(1) + "(" + m.group(2).replaceAll(" \\w+(,|$)", "$1") + ")");
        }
        return face;
    }

    private static void face() throws IOException {
        Set<String> face = new TreeSet<>();
        for (Method m : BeltHall.class.getDeclaredMethods()) {
            if (!Modifier.isPrivate(m.getModifiers())) {
                due.holds(m.getName() + " is public and no more", m.getModifiers() == Modifier.PUBLIC);
                face.add(written(m));
            }
        }
        Set<String> want = faceOfTheDocument();
        due.is("methods of the document", want.size(), 29);
        due.holds("the face " + face + " is the document's " + want, face.equals(want));
        Constructor<?>[] makers = BeltHall.class.getDeclaredConstructors();
        due.is("constructors", makers.length, 1);
        due.holds("the constructor is public", makers[0].getModifiers() == Modifier.PUBLIC && makers[0].getParameterCount() == 0);
        due.holds("the class is public and final", BeltHall.class.getModifiers() == (Modifier.PUBLIC | Modifier.FINAL));
    }

    private static List<Class<?>> classes() {
        List<Class<?>> all = new ArrayList<>(Arrays.asList(BeltHall.class.getDeclaredClasses()));
        all.add(BeltHall.class);
        return all;
    }

    private static void hiddenMembers() {
        Set<String> names = new TreeSet<>();
        for (Method m : BeltHall.class.getMethods()) {
            if (m.getDeclaringClass() == BeltHall.class) {
                names.add(m.getName());
            }
        }
        for (Field f : BeltHall.class.getDeclaredFields()) {
            due.holds("field " + f.getName() + " is private", Modifier.isPrivate(f.getModifiers()));
        }
        for (Class<?> c : classes()) {
            for (Method m : c.getDeclaredMethods()) {
                boolean isFace = c == BeltHall.class && Modifier.isPublic(m.getModifiers());
                due.holds(c + "." + m.getName() + " has a name of its own", isFace || !names.contains(m.getName()));
                due.holds(c + "." + m.getName() + " has seven parameters at most", m.getParameterCount() <= 7);
            }
        }
    }

    private static void nestedClasses() {
        due.holds("twelve classes at most", classes().size() <= 12);
        for (Class<?> c : classes()) {
            int fields = 0;
            for (Field f : c.getDeclaredFields()) {
                boolean isStatic = Modifier.isStatic(f.getModifiers());
                due.holds(c + "." + f.getName() + ": statics are final", !isStatic || Modifier.isFinal(f.getModifiers()));
                fields += isStatic ? 0 : 1;
            }
            due.holds(c + " has twenty fields at most", fields <= 20);
            due.holds(c + " is static", c == BeltHall.class || Modifier.isStatic(c.getModifiers()));
            due.is(c + " has no classes inside", c == BeltHall.class ? 0 : c.getDeclaredClasses().length, 0);
        }
    }

    private static void words(String source) {
        String[] forbidden = {"throw", "throws", "try", "catch", "synchronized", "assert", "protected", "package",
            "hashCode", "toString", "System", "Object", "Random", "Thread"};
        for (String word : forbidden) {
            due.holds("no " + word, !Pattern.compile("\\b" + word + "\\b").matcher(source).find());
        }
        due.holds("no lambda", !source.contains("->"));
        due.holds("no method reference", !source.contains("::"));
        due.holds("no text", source.indexOf('"') < 0);
        due.holds("one import", source.replace("import java.util.Arrays;", "").indexOf("import") < 0);
    }

    /** The room of a run is small: all rows are made with the object, and no call makes one. */
    private static void objects(String source) {
        for (String line : source.split("\n")) {
            if (Pattern.compile("\\bnew\\b").matcher(line).find()) {
                due.holds("made in a field: " + line.trim(), line.trim().matches("(private )?final [\\w\\[\\]]+ \\w+ = new .*;"));
            }
        }
    }

    private static void methodLengths(String source) {
        int start = -1;
        String[] lines = source.split("\n");
        for (int i = 0; i < lines.length; i++) {
            if (lines[i].matches("( {4}| {8})[\\w\\[\\]].*\\) \\{") && !lines[i].trim().matches("(if|for|while|switch) .*")) {
                start = i;
            }
            if (start >= 0 && lines[i].matches("( {4}| {8})\\}")) {
                due.holds("sixty lines at most: " + lines[start].trim(), i - start < 60);
            }
        }
    }
}
