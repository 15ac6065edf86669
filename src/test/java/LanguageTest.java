import java.io.IOException;
import java.lang.reflect.Constructor;
import java.lang.reflect.Field;
import java.lang.reflect.Method;
import java.lang.reflect.Modifier;
import java.nio.file.Files;
import java.nio.file.Path;
import java.util.ArrayList;
import java.util.Collections;
import java.util.List;
import java.util.regex.Matcher;
import java.util.regex.Pattern;

/** Looks at the program's text and face: the rules of LANGUAGE.md that can be told from there. */
public final class LanguageTest {
    private static int wrong = 0;

    public static void main(String[] args) throws IOException {
        String program = Files.readString(Path.of("src/main/java/RidCoppers.java"));
        String code = program.replaceAll("(?s)/\\*.*?\\*/|//[^\n]*", "").replaceAll("\"[^\"]*\"|'[^']*'", "\"\"");
        forbid(code, "\\b(throw|try|catch|synchronized|assert|import|package|protected|hashCode|toString)\\b");
        forbid(code, "->|::|@");
        uses(code, "\\b(Math|Integer|Long|System|Arrays|String)\\.(\\w+)",
                List.of("Math.min", "Math.max", "Long.MIN_VALUE", "Long.bitCount", "System.arraycopy"));
        uses(code, "\\bnew ([A-Z]\\w*)\\(",
                List.of("Town", "World", "Payment", "Trace", "Payer", "Exact", "Rough", "Keeper", "Light", "Wild",
                        "Told"));
        int classes = count(code, "\\bclass\\b");
        check(classes <= 12, classes + " classes");
        methodLengths(program);
        face(Files.readString(Path.of("../shared/DOC.md")));
        names();
        System.out.println(wrong == 0 ? "the program keeps to the language" : wrong + " faults of language");
        if (wrong != 0) {
            System.exit(1);
        }
    }

    private static void check(boolean holds, String fault) {
        if (!holds) {
            wrong++;
            System.out.println(fault);
        }
    }

    private static int count(String code, String pattern) {
        int found = 0;
        for (Matcher m = Pattern.compile(pattern).matcher(code); m.find();) {
            found++;
        }
        return found;
    }

    private static void forbid(String code, String pattern) {
        for (Matcher m = Pattern.compile(pattern).matcher(code); m.find();) {
            check(false, "forbidden: " + m.group());
        }
    }

    private static void uses(String code, String pattern, List<String> allowed) {
        for (Matcher m = Pattern.compile(pattern).matcher(code); m.find();) {
            String used = m.groupCount() == 2 ? m.group(1) + "." + m.group(2) : m.group(1);
            check(allowed.contains(used), "not in the list: " + used);
        }
    }

    /** A method ends at the brace that stands as far in as it began. */
    private static void methodLengths(String program) {
        String[] lines = program.split("\n");
        Pattern head = Pattern.compile("^( {4}| {8})(?! )[\\w\\[\\] ]*\\b\\w+\\((.*)\\) \\{$");
        for (int i = 0; i < lines.length; i++) {
            Matcher m = head.matcher(lines[i]);
            if (m.matches() && !lines[i].contains(" class ")) {
                int end = i;
                while (!lines[end].equals(m.group(1) + "}")) {
                    end++;
                }
                check(end - i < 60, lines[i].trim() + " has " + (end - i + 1) + " lines");
                check(m.group(2).split(",").length <= 7, lines[i].trim() + " has many parameters");
            }
            check(lines[i].length() <= 110, "line " + (i + 1) + " is long");
        }
    }

    private static void face(String document) {
        List<String> want = new ArrayList<>();
        String block = document.substring(document.indexOf("```java"), document.indexOf("```\n\n## Terms"));
        for (Matcher m = Pattern.compile("public (\\w+) (\\w+)\\((.*)\\);").matcher(block); m.find();) {
            want.add(m.group(1) + " " + m.group(2) + "(" + m.group(3).replaceAll(" \\w+(,|$)", "$1") + ")");
        }
        List<String> got = new ArrayList<>();
        for (Method method : RidCoppers.class.getDeclaredMethods()) {
            if (Modifier.isPublic(method.getModifiers())) {
                List<String> types = new ArrayList<>();
                for (Class<?> type : method.getParameterTypes()) {
                    types.add(type.getName());
                }
                got.add(method.getReturnType().getName() + " " + method.getName() + "("
                        + String.join(", ", types) + ")");
            } else {
                check(Modifier.isPrivate(method.getModifiers()) || method.isSynthetic(), method + " is not private");
            }
        }
        Collections.sort(want);
        Collections.sort(got);
        check(want.size() == 36, "the document's face has " + want.size() + " calls");
        check(want.equals(got), "the face is " + got + ", due is " + want);
        List<String> constants = List.of("NONE", "BAD", "STATE", "FULL", "NO");
        for (Field field : RidCoppers.class.getDeclaredFields()) {
            boolean isPublic = Modifier.isPublic(field.getModifiers());
            check(isPublic == constants.contains(field.getName()), field + " of the face");
            check(isPublic || Modifier.isPrivate(field.getModifiers()), field + " is not private");
        }
        Constructor<?>[] makers = RidCoppers.class.getDeclaredConstructors();
        check(makers.length == 1 && makers[0].getParameterCount() == 0 && Modifier.isPublic(makers[0].getModifiers()),
                "not one public constructor");
        check(Modifier.isFinal(RidCoppers.class.getModifiers()), "the class is not final");
    }

    /** No method of the program's own bears the name of a public one; no class has many fields. */
    private static void names() {
        List<String> open = new ArrayList<>();
        for (Method method : RidCoppers.class.getDeclaredMethods()) {
            if (Modifier.isPublic(method.getModifiers())) {
                open.add(method.getName());
            }
        }
        List<Class<?>> all = new ArrayList<>(List.of(RidCoppers.class.getDeclaredClasses()));
        all.add(RidCoppers.class);
        for (Class<?> type : all) {
            int fields = 0;
            for (Field field : type.getDeclaredFields()) {
                boolean isStatic = Modifier.isStatic(field.getModifiers());
                fields += isStatic ? 0 : 1;
                check(!isStatic || Modifier.isFinal(field.getModifiers()), field + " is not final");
            }
            check(fields <= 20, type + " has " + fields + " fields");
            for (Method method : type.getDeclaredMethods()) {
                boolean isOfFace = type == RidCoppers.class && Modifier.isPublic(method.getModifiers());
                check(isOfFace || !open.contains(method.getName()), method + " bears the name of a public one");
            }
        }
    }
}
