import java.io.IOException;
import java.lang.reflect.Constructor;
import java.lang.reflect.Field;
import java.lang.reflect.Method;
import java.lang.reflect.Modifier;
import java.nio.charset.StandardCharsets;
import java.nio.file.Files;
import java.nio.file.Path;
import java.util.Set;
import java.util.TreeSet;
import java.util.regex.Matcher;
import java.util.regex.Pattern;

/** The public face: that of the document and no more. */
public final class FaceTest {
    private static final String[] FACE = {
        "int feed(char) IllegalStateException",
        "int extend() UnsupportedOperationException",
        "int impossible() NoSuchElementException",
        "int clearMap()",
        "int unit(int,int) IndexOutOfBoundsException,IllegalArgumentException",
        "int border(int,int) IndexOutOfBoundsException",
        "int count(int) IllegalArgumentException",
        "int setDistricts(int) IllegalArgumentException",
        "int setTolerance(int) IllegalArgumentException",
        "int readPlan() IllegalStateException",
        "int move(int,int) IndexOutOfBoundsException,IllegalStateException,IllegalArgumentException,"
                + "UnsupportedOperationException",
        "int swap(int,int) IndexOutOfBoundsException,IllegalStateException,IllegalArgumentException,"
                + "UnsupportedOperationException",
        "int refuses(int,int) IndexOutOfBoundsException,IllegalStateException,IllegalArgumentException",
        "int refusal(boolean) NoSuchElementException",
        "int district(int,int) IndexOutOfBoundsException,IllegalArgumentException,IllegalStateException",
        "long measure(int,boolean) IllegalArgumentException,IllegalStateException",
        "float meanCompactness() IllegalStateException",
        "int improve(int) IllegalArgumentException,IllegalStateException",
        "int possible(boolean) IllegalStateException",
        "int plans() IllegalStateException",
        "int counted() IllegalStateException",
        "int planned(int,int) IllegalStateException,IndexOutOfBoundsException,NoSuchElementException",
        "int best(int) IllegalArgumentException,IllegalStateException,NoSuchElementException",
        "int choose(int) IllegalStateException,NoSuchElementException",
        "int store(int,boolean) IndexOutOfBoundsException,IllegalStateException",
        "int copyRow(int,int,int) IllegalArgumentException,NoSuchElementException,"
                + "UnsupportedOperationException,IndexOutOfBoundsException",
        "int bits(int,int) IndexOutOfBoundsException,NoSuchElementException",
        "int undo() IllegalStateException",
        "int saveSnapshot()",
        "int restoreSnapshot() IllegalStateException",
        "char letter(int) IndexOutOfBoundsException,IllegalStateException",
    };
    private static final Path DOCUMENT = Path.of("../shared/DOC.md");

    public static void main(String[] args) throws IOException {
        face();
        faceOfDocument();
        Check.end("FaceTest");
    }

    private static String names(Class<?>[] types) {
        StringBuilder names = new StringBuilder();
        for (Class<?> type : types) {
            names.append(names.length() == 0 ? "" : ",").append(type.getSimpleName());
        }
        return names.toString();
    }

    private static void face() {
        Class<?> planner = DistrictPlanner.class;
        Check.same("the class", Modifier.PUBLIC | Modifier.FINAL, planner.getModifiers());
        Set<String> open = new TreeSet<>();
        for (Method method : planner.getDeclaredMethods()) {
            if (!Modifier.isPrivate(method.getModifiers())) {
                Check.same("modifiers of " + method.getName(), Modifier.PUBLIC, method.getModifiers());
                open.add((method.getReturnType().getSimpleName() + " " + method.getName() + "("
                        + names(method.getParameterTypes()) + ") " + names(method.getExceptionTypes())).trim());
            }
        }
        Check.same("the methods", new TreeSet<>(Set.of(FACE)), open);
        Constructor<?>[] constructors = planner.getDeclaredConstructors();
        Check.same("the constructors", 1, constructors.length);
        Check.same("the constructor", Modifier.PUBLIC, constructors[0].getModifiers());
        Check.same("its parameters", 0, constructors[0].getParameterCount());
        for (Field field : planner.getDeclaredFields()) {
            Check.same("private " + field.getName(), true, Modifier.isPrivate(field.getModifiers()));
        }
    }

    /** The lines of the document's face, with the names of the parameters taken away. */
    private static void faceOfDocument() throws IOException {
        if (!Files.exists(DOCUMENT)) {
            System.out.println("no " + DOCUMENT + ": its face is not looked up");
            return;
        }
        String text = Files.readString(DOCUMENT, StandardCharsets.UTF_8);
        Matcher face = Pattern.compile("(?s)```java\n.*?\n}\n```").matcher(text);
        Check.same("the document has a face", true, face.find());
        Set<String> lines = new TreeSet<>();
        Matcher method = Pattern.compile("public (\\w+ \\w+\\([^)]*\\))(?: throws ([^;]*))?;").matcher(face.group());
        while (method.find()) {
            String head = method.group(1).replaceAll(" \\w+([,)])", "$1").replace(", ", ",");
            String thrown = method.group(2) == null ? "" : " " + method.group(2).replace(", ", ",");
            lines.add(head + thrown);
        }
        Check.same("the face of the document", new TreeSet<>(Set.of(FACE)), lines);
    }
}
