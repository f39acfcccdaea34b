import java.io.InputStream;
import java.lang.reflect.Constructor;
import java.lang.reflect.Field;
import java.lang.reflect.Method;
import java.lang.reflect.Modifier;
import java.nio.charset.StandardCharsets;
import java.nio.file.Files;
import java.nio.file.Path;
import java.util.ArrayList;
import java.util.List;
import java.util.Set;
import java.util.TreeSet;
import java.util.regex.Matcher;
import java.util.regex.Pattern;

/** The face of the document, and those rules of LANGUAGE.md that can be seen from the class and its text. */
public final class LanguageTest {
    private static final Path SOURCE = Path.of("src/main/java/RoadSorted.java");
    private static final Path DOCUMENT = Path.of("../shared/DOC.md");

    public static void main(String[] args) throws Exception {
        face();
        classes();
        text();
        library();
        Due.end();
    }

    private static String parameters(Class<?>[] types) {
        List<String> names = new ArrayList<>();
        for (Class<?> type : types) {
            names.add(type.getName());
        }
        return names.toString();
    }

    private static void face() throws Exception {
        String document = Files.readString(DOCUMENT, StandardCharsets.UTF_8);
        TreeSet<String> due = new TreeSet<>();
        Matcher calls = Pattern.compile("(?m)^    public int (\\w+)\\(([^)]*)\\);").matcher(document);
        while (calls.find()) {
            due.add(calls.group(1) + "[" + calls.group(2).replaceAll("int \\w+", "int") + "]");
        }
        Matcher constants = Pattern.compile("([A-Z]+) = (-\\d+)").matcher(document);
        int constantCount = 0;
        while (constants.find()) {
            constantCount++;
            Field field = RoadSorted.class.getField(constants.group(1));
            Due.due(field.getName(), field.getInt(null), Integer.parseInt(constants.group(2)));
            Due.holds(field + " is a constant", Modifier.isStatic(field.getModifiers()) && Modifier.isFinal(field.getModifiers()));
        }
        TreeSet<String> got = new TreeSet<>();
        TreeSet<String> hidden = new TreeSet<>();
        TreeSet<String> open = new TreeSet<>();
        for (Method m : RoadSorted.class.getDeclaredMethods()) {
            if (Modifier.isPublic(m.getModifiers())) {
                got.add(m.getName() + parameters(m.getParameterTypes()));
                open.add(m.getName());
                Due.holds(m + " answers int", m.getReturnType() == int.class);
                Due.holds(m + " is of objects", !Modifier.isStatic(m.getModifiers()));
            } else {
                Due.holds(m + " is private", Modifier.isPrivate(m.getModifiers()));
                hidden.add(m.getName());
            }
        }
        Due.due("calls of the document", due.size(), 41);
        Due.holds("the calls are those of the document", got.equals(due));
        for (Class<?> inside : RoadSorted.class.getDeclaredClasses()) {
            for (Method m : inside.getDeclaredMethods()) {
                hidden.add(m.getName());
            }
        }
        hidden.retainAll(open);
        Due.holds("no hidden method bears the name of a call: " + hidden, hidden.isEmpty());
        int constantsGot = 0;
        for (Field f : RoadSorted.class.getDeclaredFields()) {
            boolean isPublic = Modifier.isPublic(f.getModifiers());
            constantsGot += isPublic ? 1 : 0;
            Due.holds(f + " is public or private", isPublic || Modifier.isPrivate(f.getModifiers()));
        }
        Due.due("constants", constantsGot, constantCount);
        Constructor<?>[] constructors = RoadSorted.class.getDeclaredConstructors();
        Due.due("constructors", constructors.length, 1);
        Due.holds("it is public and takes nothing",
                Modifier.isPublic(constructors[0].getModifiers()) && constructors[0].getParameterCount() == 0);
        Due.holds("the class is public and final", Modifier.isPublic(RoadSorted.class.getModifiers())
                && Modifier.isFinal(RoadSorted.class.getModifiers()));
        Due.holds("nothing above it", RoadSorted.class.getSuperclass() == Object.class && RoadSorted.class.getInterfaces().length == 0);
    }

    private static void classes() {
        List<Class<?>> all = new ArrayList<>(List.of(RoadSorted.class.getDeclaredClasses()));
        for (Class<?> inside : all) {
            Due.holds(inside + " is static", Modifier.isStatic(inside.getModifiers()));
            Due.holds(inside + " is not for others", !Modifier.isPublic(inside.getModifiers()) && !Modifier.isProtected(inside.getModifiers()));
            Due.due("classes inside " + inside, inside.getDeclaredClasses().length, 0);
        }
        all.add(RoadSorted.class);
        Due.holds("at most twelve classes", all.size() <= 12);
        for (Class<?> c : all) {
            int fields = 0;
            for (Field f : c.getDeclaredFields()) {
                boolean isStatic = Modifier.isStatic(f.getModifiers());
                fields += isStatic ? 0 : 1;
                Due.holds(f + ", static, is final", !isStatic || Modifier.isFinal(f.getModifiers()));
            }
            Due.holds(c + " has at most twenty fields", fields <= 20);
            for (Method m : c.getDeclaredMethods()) {
                Due.holds(m + " takes at most seven", m.getParameterCount() <= 7);
                Due.holds(m + " is no lambda", !m.isSynthetic());
            }
        }
    }

    private static String source() throws Exception {
        return Files.readString(SOURCE, StandardCharsets.ISO_8859_1);
    }

    /** The source without its comments, texts and signs. */
    private static String code() throws Exception {
        return source().replaceAll("(?s)/\\*.*?\\*/", "").replaceAll("//[^\n]*", "")
                .replaceAll("\"[^\"]*\"", "\"\"").replaceAll("'.'", "0");
    }

    /** Rule 4: only functions that it names, and no class of the library that only the compiler puts in. */
    private static void library() throws Exception {
        Set<String> functions = Set.of("System.arraycopy", "Arrays.copyOf", "Arrays.copyOfRange", "Arrays.fill", "Math.max", "Math.min",
                "Math.abs", "Math.floorDiv", "Math.floorMod", "Integer.compare", "Integer.bitCount");
        Matcher used = Pattern.compile("\\b(?:System|Arrays|Math|Integer|Long|Short|Byte|Character|String|Float|Double)\\.\\w+\\b(\\()?")
                .matcher(code());
        while (used.find()) {
            String name = used.group().replace("(", "");
            Due.holds(name + " is a function of rule 4", used.group(1) != null && functions.contains(name));
        }
        Set<String> known = Set.of("java/lang/Object", "java/lang/String", "java/lang/System", "java/lang/Math", "java/lang/Integer",
                "java/util/Arrays");
        List<Class<?>> all = new ArrayList<>(List.of(RoadSorted.class.getDeclaredClasses()));
        all.add(RoadSorted.class);
        for (Class<?> c : all) {
            String bytes;
            try (InputStream in = c.getResourceAsStream(c.getName() + ".class")) {
                bytes = new String(in.readAllBytes(), StandardCharsets.ISO_8859_1);
            }
            Matcher named = Pattern.compile("javax?/\\w+(?:/\\w+)*").matcher(bytes);
            while (named.find()) {
                Due.holds(c + " uses " + named.group(), known.contains(named.group()));
            }
        }
    }

    private static void text() throws Exception {
        String source = source();
        Due.holds("signs are 10 and 32 to 126", source.chars().allMatch(c -> c == '\n' || c >= 32 && c <= 126));
        String code = code();
        String[] words = {"throw", "throws", "try", "catch", "finally", "synchronized", "assert", "package", "protected", "var", "record",
            "volatile", "native", "transient", "Object", "System\\.(?!arraycopy)\\w+", "Math\\.\\w+Exact", "hashCode", "toString"};
        for (String word : words) {
            Due.holds("no '" + word + "'", !Pattern.compile("\\b" + word + "\\b").matcher(code).find());
        }
        for (String signs : new String[] {"->", "::", "@"}) {
            Due.holds("no '" + signs + "'", !code.contains(signs));
        }
        Matcher imports = Pattern.compile("(?m)^import (.*);").matcher(code);
        while (imports.find()) {
            Due.holds("import " + imports.group(1), List.of("java.util.Arrays", "java.util.ArrayList", "java.util.List").contains(imports.group(1)));
        }
        int start = 0;
        String[] lines = source.split("\n");
        for (int i = 0; i < lines.length; i++) {
            if (lines[i].matches(" {4}( {4})?[\\w\\[\\]][^=;]*\\) \\{")) {
                start = i;
            }
            if (lines[i].matches(" {4}( {4})?\\}")) {
                Due.holds("the method at line " + (start + 1) + " is short", i - start <= 60 || lines[start].contains("class "));
            }
        }
    }
}
