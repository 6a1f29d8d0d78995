import java.io.IOException;
import java.lang.reflect.Constructor;
import java.lang.reflect.Field;
import java.lang.reflect.Method;
import java.lang.reflect.Modifier;
import java.nio.charset.StandardCharsets;
import java.nio.file.Files;
import java.nio.file.Path;
import java.util.HashSet;
import java.util.Set;
import java.util.TreeSet;
import java.util.regex.Matcher;
import java.util.regex.Pattern;

/** The face of the document, and those rules of LANGUAGE.md that can be seen without reading. */
public final class FaceTest {
    private static final String[] FACE = {
        "int feed(char) IllegalStateException",
        "int extend() UnsupportedOperationException",
        "int impossible() NoSuchElementException",
        "int clearMap()",
        "int unit(int,int) IndexOutOfBoundsException,IllegalArgumentException",
        "int border(int,int) IndexOutOfBoundsException",
        "int count(int) IllegalArgumentException",
        "int setDistricts(int) IllegalArgumentException",
        "int setTolerance(int) IllegalArgumentException",
        "int readPlan() IllegalStateException",
        "int move(int,int) IndexOutOfBoundsException,IllegalStateException,IllegalArgumentException,"
                + "UnsupportedOperationException",
        "int swap(int,int) IndexOutOfBoundsException,IllegalStateException,IllegalArgumentException,"
                + "UnsupportedOperationException",
        "int refuses(int,int) IndexOutOfBoundsException,IllegalStateException,IllegalArgumentException",
        "int refusal(boolean) NoSuchElementException",
        "int district(int,int) IndexOutOfBoundsException,IllegalArgumentException,IllegalStateException",
        "long measure(int,boolean) IllegalArgumentException,IllegalStateException",
        "float meanCompactness() IllegalStateException",
        "int improve(int) IllegalArgumentException,IllegalStateException",
        "int possible(boolean) IllegalStateException",
        "int plans() IllegalStateException",
        "int counted() IllegalStateException",
        "int planned(int,int) IllegalStateException,IndexOutOfBoundsException,NoSuchElementException",
        "int best(int) IllegalArgumentException,IllegalStateException,NoSuchElementException",
        "int choose(int) IllegalStateException,NoSuchElementException",
        "int store(int,boolean) IndexOutOfBoundsException,IllegalStateException",
        "int copyRow(int,int,int) IllegalArgumentException,NoSuchElementException,"
                + "UnsupportedOperationException,IndexOutOfBoundsException",
        "int bits(int,int) IndexOutOfBoundsException,NoSuchElementException",
        "int undo() IllegalStateException",
        "int saveSnapshot()",
        "int restoreSnapshot() IllegalStateException",
        "char letter(int) IndexOutOfBoundsException,IllegalStateException",
    };
    private static final String[] RULED_OUT = {
        "->", "::", "catch", "finally", "synchronized", "assert", "instanceof", "Exact(", "double", "protected",
        "Random", "System.nano", "System.current", "Thread", "native", "volatile", "@", "floatToIntBits",
    };

    public static void main(String[] args) throws IOException {
        face();
        classesInside();
        source();
        Check.end("FaceTest");
    }

    private static String names(Class<?>[] types) {
        StringBuilder names = new StringBuilder();
        for (Class<?> type : types) {
            names.append(names.length() == 0 ? "" : ",").append(type.getSimpleName());
        }
        return names.toString();
    }

    private static void face() {
        Class<?> planner = DistrictPlanner.class;
        Check.same("the class", Modifier.PUBLIC | Modifier.FINAL, planner.getModifiers());
        Set<String> open = new TreeSet<>();
        for (Method method : planner.getDeclaredMethods()) {
            if (!Modifier.isPrivate(method.getModifiers())) {
                Check.same("modifiers of " + method.getName(), Modifier.PUBLIC, method.getModifiers());
                open.add((method.getReturnType().getSimpleName() + " " + method.getName() + "("
                        + names(method.getParameterTypes()) + ") " + names(method.getExceptionTypes())).trim());
            }
        }
        Check.same("the methods", new TreeSet<>(Set.of(FACE)), open);
        Constructor<?>[] constructors = planner.getDeclaredConstructors();
        Check.same("the constructors", 1, constructors.length);
        Check.same("the constructor", Modifier.PUBLIC, constructors[0].getModifiers());
        Check.same("its parameters", 0, constructors[0].getParameterCount());
        for (Field field : planner.getDeclaredFields()) {
            Check.same("private " + field.getName(), true, Modifier.isPrivate(field.getModifiers()));
        }
    }

    private static void classesInside() {
        Set<String> publicNames = new HashSet<>();
        for (String line : FACE) {
            publicNames.add(line.substring(line.indexOf(' ') + 1, line.indexOf('(')));
        }
        Class<?>[] inside = DistrictPlanner.class.getDeclaredClasses();
        Check.same("at most twelve classes", true, inside.length < 12);
        countFields(DistrictPlanner.class);
        for (Class<?> type : inside) {
            int modifiers = type.getModifiers();
            Check.same("static " + type, true, Modifier.isStatic(modifiers));
            Check.same("hidden " + type, false, Modifier.isPublic(modifiers) || Modifier.isProtected(modifiers));
            for (Method method : type.getDeclaredMethods()) {
                Check.same("no public name: " + method, false, publicNames.contains(method.getName()));
                Check.same("parameters of " + method, true, method.getParameterCount() <= 7);
            }
            countFields(type);
        }
        for (Method method : DistrictPlanner.class.getDeclaredMethods()) {
            boolean isHidden = Modifier.isPrivate(method.getModifiers());
            Check.same("no public name: " + method, false, isHidden && publicNames.contains(method.getName()));
        }
    }

    private static void countFields(Class<?> type) {
        int fields = 0;
        for (Field field : type.getDeclaredFields()) {
            boolean isStatic = Modifier.isStatic(field.getModifiers());
            fields += isStatic ? 0 : 1;
            Check.same("final " + field, true, !isStatic || Modifier.isFinal(field.getModifiers()));
        }
        Check.same("fields of " + type, true, fields <= 20);
    }

    private static void source() throws IOException {
        String code = Files.readString(Path.of("src/main/java/DistrictPlanner.java"), StandardCharsets.ISO_8859_1);
        Check.same("signs from 1 to 127", true, code.chars().allMatch(c -> c > 0 && c < 128));
        String bare = code.replaceAll("(?s)/\\*.*?\\*/", "").replaceAll("//.*", "").replaceAll("\"[^\"]*\"", "\"\"")
                .replace("'@'", "''");
        for (String word : RULED_OUT) {
            Check.same("no " + word, false, bare.contains(word));
        }
        Set<String> imports = new TreeSet<>();
        Matcher matcher = Pattern.compile("import ([^;]*);").matcher(bare);
        while (matcher.find()) {
            imports.add(matcher.group(1));
        }
        Check.same("imports", new TreeSet<>(Set.of("java.util.Arrays", "java.util.NoSuchElementException")), imports);
        lengths(bare.split("\n"));
    }

    /** A method begins at a line that ends in '{' behind ')' or an exception, and ends at a brace of its indent. */
    private static void lengths(String[] lines) {
        Pattern head = Pattern.compile("^( {4}| {8})[^ }].*\\).*\\{$");
        for (int i = 0; i < lines.length; i++) {
            Matcher matcher = head.matcher(lines[i]);
            if (matcher.matches()) {
                int end = i;
                while (end < lines.length && !lines[end].equals(matcher.group(1) + "}")) {
                    end++;
                }
                Check.same("length of " + lines[i].trim(), true, end - i < 60);
            }
        }
    }
}
