import java.io.IOException;
import java.lang.reflect.Constructor;
import java.lang.reflect.Field;
import java.lang.reflect.Method;
import java.lang.reflect.Modifier;
import java.nio.charset.StandardCharsets;
import java.nio.file.Files;
import java.nio.file.Path;
import java.util.Set;
import java.util.TreeSet;
import java.util.regex.Matcher;
import java.util.regex.Pattern;

/** Rules of LANGUAGE.md that can be seen from the source and from the compiled class. */
public final class LanguageTest {
    private static final Path SOURCE = Path.of("src/main/java/RefusedOnce.java");
    private static final String[] BANNED = {"import", "package", "throw", "throws", "try", "catch", "finally",
        "synchronized", "assert", "native", "volatile", "var", "instanceof", "Object", "Math.*Exact", "hashCode",
        "toString", "System.out", "System.currentTimeMillis", "System.nanoTime", "Random", "Thread"};

    private static int wrong;

    private static void due(boolean right, String what) {
        if (!right) {
            wrong++;
            System.out.println(what);
        }
    }

    /** The source without comments, texts and letters. */
    private static String bare(String source) {
        return source.replaceAll("(?s)/\\*.*?\\*/", " ").replaceAll("//[^\n]*", " ")
            .replaceAll("'(\\\\.|[^'\\\\])'", "0").replaceAll("\"(\\\\.|[^\"\\\\])*\"", "0");
    }

    private static void words(String source) {
        String bare = bare(source);
        for (String each : BANNED) {
            Pattern word = Pattern.compile("(?<![\\w.])" + each.replace(".", "\\.").replace("*", "\\w*") + "\\b");
            due(!word.matcher(bare).find(), "it has the word " + each);
        }
        due(!bare.contains("->") && !bare.contains("::"), "it has a lambda or a method reference");
        due(!bare.contains("\""), "it has a text");
        due(!Pattern.compile("static\\s*\\{").matcher(bare).find(), "it has a static initialiser");
        for (char letter : source.toCharArray()) due(letter > 0 && letter < 128, "it has the sign " + (int) letter);
        Matcher library = Pattern.compile("\\b([A-Z]\\w*)\\.(\\w+)").matcher(bare);
        Set<String> allowed = Set.of("Math.max", "Math.min", "System.arraycopy", "Long.MIN_VALUE");
        while (library.find()) {
            boolean own = source.contains("class " + library.group(1) + " ") || source.contains("int[] " + library.group(1) + " ");
            due(own || allowed.contains(library.group()), "it uses " + library.group());
        }
        int classes = 0;
        Matcher each = Pattern.compile("\\bclass \\w+").matcher(bare);
        while (each.find()) classes++;
        due(classes <= 12, "it has " + classes + " classes");
        due(Pattern.compile("\\bwhile \\(true\\)|for \\(;;\\)").matcher(bare).results().count() == 0, "a loop without an end");
    }

    private static void lengths(String source) {
        String[] lines = source.split("\n");
        int start = -1;
        String end = "";
        for (int i = 0; i < lines.length; i++) {
            due(lines[i].length() <= 120, "line " + (i + 1) + " is long");
            Matcher head = Pattern.compile("^( {4}| {8})(?=[a-z])[\\w\\[\\] ]*\\(.*\\) \\{$").matcher(lines[i]);
            if (head.find()) {
                start = i;
                end = head.group(1) + "}";
            }
            if (start >= 0 && lines[i].equals(end)) {
                due(i - start <= 60, "the method at line " + (start + 1) + " has " + (i - start) + " lines");
                start = -1;
            }
        }
    }

    /** The methods and constants that the document prints. */
    private static Set<String> faceOf(Path document) throws IOException {
        String text = Files.readString(document, StandardCharsets.UTF_8);
        String face = text.substring(text.indexOf("```java") + 7);
        face = face.substring(0, face.indexOf("```"));
        Set<String> all = new TreeSet<>();
        Matcher method = Pattern.compile("public (\\w+) (\\w+)\\(([^)]*)\\);").matcher(face);
        while (method.find()) {
            String types = method.group(3).replaceAll("(\\w+) \\w+", "$1").replace(" ", "");
            all.add(method.group(1) + " " + method.group(2) + "(" + types + ")");
        }
        Matcher constant = Pattern.compile("([A-Z]+) = (-?\\d+)").matcher(face);
        while (constant.find()) all.add("int " + constant.group(1) + " = " + constant.group(2));
        return all;
    }

    private static void face(Path document) throws IOException, IllegalAccessException {
        Class<?> made = RefusedOnce.class;
        Set<String> shown = new TreeSet<>();
        Set<String> names = new TreeSet<>();
        for (Method method : made.getDeclaredMethods()) {
            if (method.isSynthetic() || Modifier.isPrivate(method.getModifiers())) continue;
            due(Modifier.isPublic(method.getModifiers()), method + " is not public");
            StringBuilder types = new StringBuilder();
            for (Class<?> type : method.getParameterTypes()) types.append(types.length() > 0 ? "," : "").append(type);
            shown.add(method.getReturnType() + " " + method.getName() + "(" + types + ")");
            names.add(method.getName());
        }
        for (Field field : made.getDeclaredFields()) {
            if (field.isSynthetic() || Modifier.isPrivate(field.getModifiers())) continue;
            shown.add(field.getType() + " " + field.getName() + " = " + field.get(null));
        }
        due(shown.equals(faceOf(document)), "the face is " + shown + " and not " + faceOf(document));
        due(shown.size() == 45, "it has " + shown.size() + " members");
        Constructor<?>[] constructors = made.getDeclaredConstructors();
        due(constructors.length == 1 && constructors[0].getParameterCount() == 0, "the constructor");
        due(Modifier.isPublic(made.getModifiers()) && Modifier.isFinal(made.getModifiers()), "public and final");
        inside(made, names);
    }

    private static void inside(Class<?> made, Set<String> names) {
        for (Class<?> each : made.getDeclaredClasses()) {
            due(Modifier.isStatic(each.getModifiers()), each + " is not static");
            for (Method method : each.getDeclaredMethods()) {
                due(!names.contains(method.getName()), each + " has a " + method.getName());
            }
            shape(each);
        }
        for (Method method : made.getDeclaredMethods()) {
            boolean hidden = Modifier.isPrivate(method.getModifiers());
            due(!hidden || !names.contains(method.getName()), "a private " + method.getName());
        }
        shape(made);
    }

    private static void shape(Class<?> made) {
        int fields = 0;
        for (Field field : made.getDeclaredFields()) {
            boolean isStatic = Modifier.isStatic(field.getModifiers());
            if (!isStatic) fields++;
            due(!isStatic || Modifier.isFinal(field.getModifiers()), field + " is static and not final");
        }
        due(fields <= 20, made + " has " + fields + " fields");
        for (Method method : made.getDeclaredMethods()) due(method.getParameterCount() <= 7, method + " takes too many");
    }

    public static void main(String[] args) throws IOException, IllegalAccessException {
        String source = Files.readString(SOURCE, StandardCharsets.ISO_8859_1);
        words(source);
        lengths(source);
        face(Path.of(args.length > 0 ? args[0] : "../shared").resolve("DOC.md"));
        System.out.println(wrong == 0 ? "the language is kept" : wrong + " breaches");
        if (wrong != 0) System.exit(1);
    }
}
