import java.io.IOException;
import java.lang.reflect.Constructor;
import java.lang.reflect.Field;
import java.lang.reflect.Method;
import java.lang.reflect.Modifier;
import java.nio.file.Files;
import java.nio.file.Path;
import java.util.ArrayList;
import java.util.Collections;
import java.util.List;
import java.util.regex.Matcher;
import java.util.regex.Pattern;

/** Looks at the program's text and face: the rules of LANGUAGE.md that can be told from there. */
public final class LanguageTest {
    private static int wrong = 0;

    public static void main(String[] args) throws IOException {
        String program = Files.readString(Path.of("src/main/java/RidCoppers.java"));
        String code = program.replaceAll("(?s)/\\*.*?\\*/|//[^\n]*", "").replaceAll("\"[^\"]*\"|'[^']*'", "\"\"");
        forbid(code, "\\b(throw|try|catch|synchronized|assert|import|package|protected|hashCode|toString)\\b");
        forbid(code, "->|::|@");
        uses(code, "\\b(Math|Integer|Long|System|Arrays|String)\\.(\\w+)",
                List.of("Math.min", "Math.max", "Long.MIN_VALUE", "Long.bitCount", "System.arraycopy"));
        uses(code, "\\bnew ([A-Z]\\w*)\\(",
                List.of("Town", "World", "Payment", "Trace", "Payer", "Exact", "Rough", "Keeper", "Light", "Wild",
                        "Told"));
        int classes = count(code, "\\bclass\\b");
        check(classes <= 12, classes + " classes");
        methodLengths(program);
        String document = Files.readString(Path.of("../shared/DOC.md"));
        face(document);
        constants(document);
        parts(document, program);
        names();
        System.out.println(wrong == 0 ? "the program keeps to the language" : wrong + " faults of language");
        if (wrong != 0) {
            System.exit(1);
        }
    }

    private static void check(boolean holds, String fault) {
        if (!holds) {
            wrong++;
            System.out.println(fault);
        }
    }

    private static int count(String code, String pattern) {
        int found = 0;
        for (Matcher m = Pattern.compile(pattern).matcher(code); m.find();) {
            found++;
        }
        return found;
    }

    private static void forbid(String code, String pattern) {
        for (Matcher m = Pattern.compile(pattern).matcher(code); m.find();) {
            check(false, "forbidden: " + m.group());
        }
    }

    private static void uses(String code, String pattern, List<String> allowed) {
        for (Matcher m = Pattern.compile(pattern).matcher(code); m.find();) {
            String used = m.groupCount() == 2 ? m.group(1) + "." + m.group(2) : m.group(1);
            check(allowed.contains(used), "not in the list: " + used);
        }
    }

    /** A method ends at the brace that stands as far in as it began. */
    private static void methodLengths(String program) {
        String[] lines = program.split("\n");
        Pattern head = Pattern.compile("^( {4}| {8})(?! )[\\w\\[\\] ]*\\b\\w+\\((.*)\\) \\{$");
        for (int i = 0; i < lines.length; i++) {
            Matcher m = head.matcher(lines[i]);
            if (m.matches() && !lines[i].contains(" class ")) {
                int end = i;
                while (!lines[end].equals(m.group(1) + "}")) {
                    end++;
                }
                check(end - i < 60, lines[i].trim() + " has " + (end - i + 1) + " lines");
                check(m.group(2).split(",").length <= 7, lines[i].trim() + " has many parameters");
            }
            check(lines[i].length() <= 110, "line " + (i + 1) + " is long");
        }
    }

    private static void face(String document) {
        List<String> want = new ArrayList<>();
        String block = document.substring(document.indexOf("```java"), document.indexOf("```\n\n## Terms"));
        for (Matcher m = Pattern.compile("public (\\w+) (\\w+)\\((.*)\\);").matcher(block); m.find();) {
            want.add(m.group(1) + " " + m.group(2) + "(" + m.group(3).replaceAll(" \\w+(,|$)", "$1") + ")");
        }
        List<String> got = new ArrayList<>();
        for (Method method : RidCoppers.class.getDeclaredMethods()) {
            if (Modifier.isPublic(method.getModifiers())) {
                List<String> types = new ArrayList<>();
                for (Class<?> type : method.getParameterTypes()) {
                    types.add(type.getName());
                }
                got.add(method.getReturnType().getName() + " " + method.getName() + "("
                        + String.join(", ", types) + ")");
            } else {
                check(Modifier.isPrivate(method.getModifiers()) || method.isSynthetic(), method + " is not private");
            }
        }
        Collections.sort(want);
        Collections.sort(got);
        check(want.size() == 36, "the document's face has " + want.size() + " calls");
        check(want.equals(got), "the face is " + got + ", due is " + want);
        Constructor<?>[] makers = RidCoppers.class.getDeclaredConstructors();
        check(makers.length == 1 && makers[0].getParameterCount() == 0 && Modifier.isPublic(makers[0].getModifiers()),
                "not one public constructor");
        check(Modifier.isFinal(RidCoppers.class.getModifiers()), "the class is not final");
    }

    /** The constants are those of the document: their types, names and numbers. */
    private static void constants(String document) {
        List<String> want = new ArrayList<>();
        for (Matcher m = Pattern.compile("public static final (\\w+) (.*);").matcher(document); m.find();) {
            for (String constant : m.group(2).split(", ")) {
                want.add(m.group(1) + " " + constant.replace("Long.MIN_VALUE", "" + Long.MIN_VALUE));
            }
        }
        List<String> got = new ArrayList<>();
        for (Field field : RidCoppers.class.getDeclaredFields()) {
            if (Modifier.isPublic(field.getModifiers())) {
                check(Modifier.isStatic(field.getModifiers()), field + " is not static");
                got.add(field.getType().getName() + " " + field.getName() + " = " + number(field));
            } else {
                check(Modifier.isPrivate(field.getModifiers()), field + " is not private");
            }
        }
        Collections.sort(want);
        Collections.sort(got);
        check(want.size() == 5, "the document has " + want.size() + " constants");
        check(want.equals(got), "the constants are " + got + ", due is " + want);
    }

    private static long number(Field field) {
        try {
            return field.getLong(null);
        } catch (IllegalAccessException e) {
            throw new IllegalStateException(e);
        }
    }

    /** What the interface says ahead of its calls stands there, and the calls behind it in their order. */
    private static void parts(String document, String program) {
        int parts = 0;
        int at = 0;
        for (Matcher m = Pattern.compile("Ahead of the calls (.*?) the interface says: (---- .*?)\\.\n")
                .matcher(document); m.find();) {
            parts++;
            at = behind(program, at, "// " + m.group(2) + "\n");
            for (String name : m.group(1).replace("`", "").split(", ")) {
                at = behind(program, at, " " + name + "(");
            }
        }
        check(parts == 5, "the document has " + parts + " parts of calls");
    }

    private static int behind(String program, int from, String words) {
        int at = program.indexOf(words, from);
        check(at >= 0, "not where it is due: " + words.trim());
        return Math.max(at, from);
    }

    /** No method of the program's own bears the name of a public one; no class has many fields. */
    private static void names() {
        List<String> open = new ArrayList<>();
        for (Method method : RidCoppers.class.getDeclaredMethods()) {
            if (Modifier.isPublic(method.getModifiers())) {
                open.add(method.getName());
            }
        }
        List<Class<?>> all = new ArrayList<>(List.of(RidCoppers.class.getDeclaredClasses()));
        all.add(RidCoppers.class);
        for (Class<?> type : all) {
            int fields = 0;
            for (Field field : type.getDeclaredFields()) {
                boolean isStatic = Modifier.isStatic(field.getModifiers());
                fields += isStatic ? 0 : 1;
                check(!isStatic || Modifier.isFinal(field.getModifiers()), field + " is not final");
            }
            check(fields <= 20, type + " has " + fields + " fields");
            for (Method method : type.getDeclaredMethods()) {
                boolean isOfFace = type == RidCoppers.class && Modifier.isPublic(method.getModifiers());
                check(isOfFace || !open.contains(method.getName()), method + " bears the name of a public one");
            }
        }
    }
}
