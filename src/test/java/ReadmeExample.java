import java.io.IOException;
import java.lang.reflect.Method;
import java.lang.reflect.Modifier;
import java.nio.file.Files;
import java.nio.file.Path;
import java.util.List;
import java.util.TreeSet;
import java.util.regex.Matcher;
import java.util.regex.Pattern;

/**
 * Writes the examples of README.md as a program, ReadmeRun, that makes their calls and compares what they return with
 * what stands behind them. Its arguments are README.md and the directory that the program is written to.
 */
public final class ReadmeExample {
    private static final String CHAPTER = "## How to use it";
    private static final Pattern NEW_OBJECT = Pattern.compile("RangeDeeds \\w+ = new RangeDeeds\\(\\);");
    /** A declaration or nothing, a call, and behind it a number or the name of a constant, with or without words. */
    private static final Pattern CALL = Pattern.compile(
        "(?:(?<type>int|long) (?<name>\\w+) = )?(?<call>\\w+\\.(?<method>\\w+)\\(.*\\)); +"
            + "// (?<answer>-?\\d+|[A-Z_]+)(?:: .*)?");

    private final StringBuilder program = new StringBuilder();
    private final TreeSet<String> methods = new TreeSet<>();
    private int calls;
    private int faults;

    public static void main(String[] args) throws IOException {
        ReadmeExample example = new ReadmeExample();
        example.read(Files.readAllLines(Path.of(args[0])));
        example.compareWithFace();
        Files.createDirectories(Path.of(args[1]));
        Files.writeString(Path.of(args[1], "ReadmeRun.java"), example.whole());
        System.out.println("ReadmeExample: " + example.calls + " calls, " + example.faults + " faults");
        if (example.faults > 0) {
            System.exit(1);
        }
    }

    private void read(List<String> lines) {
        boolean inChapter = false;
        boolean inExample = false;
        for (String line : lines) {
            if (inExample && !line.startsWith("```")) {
                take(line.strip());
            } else if (line.startsWith("```")) {
                inExample = inChapter && line.equals("```java");
            } else if (line.startsWith("## ")) {
                inChapter = line.equals(CHAPTER);
            }
        }
    }

    private void take(String line) {
        Matcher call = CALL.matcher(line);
        if (call.matches()) {
            takeCall(call);
        } else if (NEW_OBJECT.matcher(line).matches()) {
            program.append("        ").append(line).append('\n');
        } else {
            tell("no call with an answer behind it: " + line);
        }
    }

    private void takeCall(Matcher call) {
        calls++;
        methods.add(call.group("method"));
        String got = call.group("call");
        if (call.group("type") != null) {
            program.append("        ").append(call.group("type")).append(' ').append(call.group("name"))
                .append(" = ").append(got).append(";\n");
            got = call.group("name");
        }
        String answer = call.group("answer");
        boolean isNumber = answer.matches("-?\\d+");
        program.append("        check.due(\"").append(call.group("call").replace("\"", "\\\"")).append("\", ")
            .append(got).append(", ").append(isNumber ? answer : "RangeDeeds." + answer).append(");\n");
    }

    /** Every method of the class has to be in the examples. */
    private void compareWithFace() {
        for (Method method : RangeDeeds.class.getDeclaredMethods()) {
            if (Modifier.isPublic(method.getModifiers()) && !methods.contains(method.getName())) {
                tell("no example calls " + method.getName());
            }
        }
    }

    private String whole() {
        return "final class ReadmeRun {\n    public static void main(String[] args) {\n"
            + "        Check check = new Check(\"README.md\");\n        check.part(\"examples\");\n"
            + program + "        check.end();\n    }\n}\n";
    }

    private void tell(String fault) {
        faults++;
        System.out.println("README.md: " + fault);
    }
}
