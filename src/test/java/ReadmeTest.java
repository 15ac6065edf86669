import java.io.File;
import java.io.IOException;
import java.nio.charset.StandardCharsets;
import java.nio.file.Files;
import java.nio.file.Path;
import java.util.ArrayList;
import java.util.Comparator;
import java.util.List;
import java.util.TreeSet;
import java.util.regex.Matcher;
import java.util.regex.Pattern;
import java.util.stream.Stream;

/** What README.md says holds: its programs compile, its answers are given, its commands run, its names are there. */
public final class ReadmeTest {
    private static final Pattern ANSWERED =
            Pattern.compile("^(?:int \\w+ = )?(\\w+\\.(\\w+)\\(.*\\));\\s+// (-?\\d+|RidCoppers\\.NO)(?::.*)?$");
    private static int wrong = 0;

    public static void main(String[] args) throws IOException, InterruptedException {
        String page = Files.readString(Path.of("README.md"));
        Path folder = Files.createTempDirectory("readme");
        try {
            copy(Path.of("src"), folder.resolve("src"));
            Files.copy(Path.of("src/main/java/RidCoppers.java"), folder.resolve("RidCoppers.java"));
            commands(page, folder);
            answers(page, folder);
        } finally {
            remove(folder);
        }
        face(page);
        refusals(page);
        tests(page);
        paths(page);
        System.out.println(wrong == 0 ? "README.md holds" : wrong + " faults of README.md");
        if (wrong != 0) {
            System.exit(1);
        }
    }

    private static void check(boolean holds, String fault) {
        if (!holds) {
            wrong++;
            System.out.println(fault);
        }
    }

    private static List<String> blocks(String page, String kind) {
        List<String> found = new ArrayList<>();
        for (Matcher m = Pattern.compile("(?s)```" + kind + "\n(.*?)```").matcher(page); m.find();) {
            found.add(m.group(1));
        }
        check(!found.isEmpty(), "no block of " + kind);
        return found;
    }

    /** The whole program of the page is compiled and run by the page's own commands, and prints what it says. */
    private static void commands(String page, Path folder) throws IOException, InterruptedException {
        Files.writeString(folder.resolve("Shop.java"), blocks(page, "java").get(0));
        String printed = blocks(page, "text").get(0);
        boolean ofShop = false;
        for (String block : blocks(page, "sh")) {
            for (String command : block.split("\n")) {
                String out = run(folder, command.split(" "));
                if (command.endsWith(" Shop")) {
                    ofShop = true;
                    check(out.equals(printed), "Shop prints: " + out);
                }
            }
        }
        check(ofShop, "no command runs Shop");
    }

    /** The other programs of the page are calls; behind each stands what it answers. */
    private static void answers(String page, Path folder) throws IOException, InterruptedException {
        StringBuilder program = new StringBuilder("public final class Answers {\n"
                + "static void due(String line, long got, long want) {\n"
                + "if (got != want) { System.out.println(line + \" but it answers \" + got); } }\n"
                + "public static void main(String[] args) {\n");
        List<String> blocks = blocks(page, "java");
        int told = 0;
        for (String block : blocks.subList(1, blocks.size())) {
            for (String line : block.split("\n")) {
                Matcher m = ANSWERED.matcher(line);
                if (m.matches()) {
                    told++;
                    program.append("due(\"").append(line).append("\", ").append(m.group(1)).append(", ")
                            .append(m.group(3)).append(");\n");
                } else {
                    program.append(line).append('\n');
                    check(line.startsWith("//") || !line.contains("//"), "no answer can be told from: " + line);
                }
            }
        }
        Files.writeString(folder.resolve("Answers.java"), program.append("}}\n"));
        run(folder, "javac", "-d", "out", "RidCoppers.java", "Answers.java");
        String out = run(folder, "java", "-cp", "out", "Answers");
        check(out.isEmpty(), "not as README.md says: " + out);
        check(told > 0, "README.md tells no answers");
    }

    private static String run(Path folder, String... command) throws IOException, InterruptedException {
        File printed = folder.resolve("printed").toFile();
        Process process = new ProcessBuilder(command).directory(folder.toFile()).redirectErrorStream(true)
                .redirectOutput(printed).start();
        int end = process.waitFor();
        String out = Files.readString(printed.toPath(), StandardCharsets.UTF_8);
        check(end == 0, String.join(" ", command) + " ends with " + end + ": " + out);
        return out;
    }

    /** The calls of the face, under the names that the document has for their parts, all used by the examples. */
    private static void face(String page) throws IOException {
        String document = Files.readString(Path.of("../shared/DOC.md"));
        for (Matcher m = Pattern.compile("Ahead of the calls (.*?) the interface says: ---- (.*?)\\.\n")
                .matcher(document); m.find();) {
            String calls = "// " + m.group(2) + ": " + m.group(1).replace("`", "") + "\n";
            check(page.contains("\n" + calls), "README.md does not have: " + calls);
            for (String name : m.group(1).replace("`", "").split(", ")) {
                check(page.contains("x." + name + "("), "no example of " + name);
            }
        }
    }

    /** The constants have the numbers that the table says, and each of its numbers is answered in an example. */
    private static void refusals(String page) {
        int[] values = {RidCoppers.NONE, RidCoppers.BAD, RidCoppers.STATE, RidCoppers.FULL};
        String[] names = {"NONE", "BAD", "STATE", "FULL"};
        for (int i = 0; i < values.length; i++) {
            check(page.contains("| `RidCoppers." + names[i] + "` (" + values[i] + ") |"), names[i] + " is otherwise");
        }
        for (String answer : new String[] {"-1", "-2", "-3", "-4", "-5", "-11", "-12", "-13", "-14", "-100001"}) {
            check(Pattern.compile("// " + answer + "\\b").matcher(page).find(), "no example of " + answer);
        }
    }

    private static void tests(String page) throws IOException {
        TreeSet<String> told = new TreeSet<>();
        for (Matcher m = Pattern.compile("(?m)^- `(\\w+)`:").matcher(page); m.find();) {
            told.add(m.group(1));
        }
        TreeSet<String> there = new TreeSet<>();
        try (Stream<Path> files = Files.list(Path.of("src/test/java"))) {
            files.forEach(file -> there.add(file.getFileName().toString().replace(".java", "")));
        }
        check(told.equals(there), "tests told are " + told + ", there are " + there);
    }

    private static void paths(String page) {
        for (Matcher m = Pattern.compile("`((?:src|\\.\\./shared|\\.ci)[^` ]*)`").matcher(page); m.find();) {
            check(Files.exists(Path.of(m.group(1))), "there is no " + m.group(1));
        }
        check(Files.isExecutable(Path.of(".ci/run")), ".ci/run can not be run");
    }

    private static void copy(Path from, Path to) throws IOException {
        List<Path> all;
        try (Stream<Path> files = Files.walk(from)) {
            all = files.toList();
        }
        for (Path one : all) {
            Files.copy(one, to.resolve(from.relativize(one).toString()));
        }
    }

    private static void remove(Path folder) throws IOException {
        List<Path> all;
        try (Stream<Path> files = Files.walk(folder)) {
            all = files.sorted(Comparator.reverseOrder()).toList();
        }
        for (Path one : all) {
            Files.delete(one);
        }
    }
}
