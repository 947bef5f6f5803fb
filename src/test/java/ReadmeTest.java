import java.io.File;
import java.io.IOException;
import java.nio.file.Files;
import java.nio.file.Path;
import java.util.ArrayList;
import java.util.List;
import java.util.Set;
import java.util.TreeSet;
import java.util.regex.Matcher;
import java.util.regex.Pattern;

/** README.md says what is so: its example, its calls with their refusals beside the document's, tests and classes. */
public final class ReadmeTest {
    private static final Pattern LINE = Pattern.compile("((?:press\\.\\w+\\([^()]*\\); *)+)// (-?\\d+|[A-Z]+): .+");
    private static final Pattern CALL = Pattern.compile("press\\.(\\w+)\\(([^()]*)\\);");
    private static final Pattern ROW = Pattern.compile("\\| (\\d+) \\| `(\\w+\\(.*?\\))` \\| (.+) \\| (.+) \\|");
    private static final Pattern PROMISE = Pattern.compile("## Promise (\\d+): .+\n\n`(.+?)`: (.+)");
    private static final Pattern REFUSAL = Pattern.compile("\\b(UNKNOWN|OUTSIDE|STATE|NO|FULL)\\b");

    public static void main(String[] args) throws IOException {
        String readme = Files.readString(Path.of("README.md"));
        example(readme);
        constants(readme);
        calls(readme, Files.readString(Path.of("../shared/DOC.md")));
        tests(readme);
        classes(readme);
        Due.end();
    }

    private static void holds(String what, boolean holds) {
        Due.due("README: " + what, holds ? 1 : 0, 1);
    }

    private static String between(String text, String start, String end) {
        int from = text.indexOf(start) + start.length();
        return text.substring(from, text.indexOf(end, from));
    }

    /** Each line as it is written: its last call answers what stands behind it. */
    private static void example(String readme) {
        String block = between(readme, "```java\nLeadPress press = new LeadPress();\n", "```");
        LeadPress press = new LeadPress();
        int answers = 0;
        for (String line : block.split("\n")) {
            if (line.isEmpty() || line.startsWith("// ")) {
                continue;
            }
            Matcher whole = LINE.matcher(line);
            holds("a line of the example: " + line, whole.matches());
            int answer = 0;
            Matcher call = CALL.matcher(whole.group(1));
            while (call.find()) {
                answer = answerOf(press, call.group(1), call.group(2));
            }
            Due.due(line, answer, number(whole.group(2)));
            answers++;
        }
        holds("an example", answers > 30);
    }

    private static int answerOf(LeadPress press, String call, String arguments) {
        String[] texts = arguments.isEmpty() ? new String[0] : arguments.split(", ");
        int[] numbers = new int[2];
        for (int i = 0; i < texts.length; i++) {
            numbers[i] = texts[i].matches("'.'") ? texts[i].charAt(1) : Integer.parseInt(texts[i]);
        }
        Due.due("README: numbers of " + call, texts.length, Calls.numbers(call));
        return Calls.on(press, call, numbers[0], numbers[1]);
    }

    private static int number(String text) {
        switch (text) {
            case "UNKNOWN": return LeadPress.UNKNOWN;
            case "OUTSIDE": return LeadPress.OUTSIDE;
            case "STATE": return LeadPress.STATE;
            case "FULL": return LeadPress.FULL;
            case "NO": return LeadPress.NO;
            case "NONE": return LeadPress.NONE;
            default: return Integer.parseInt(text);
        }
    }

    private static void constants(String readme) {
        Matcher constant = Pattern.compile("`([A-Z]+)` \\((-\\d)\\)").matcher(readme);
        Set<String> names = new TreeSet<>();
        while (constant.find()) {
            names.add(constant.group(1));
            Due.due("README: " + constant.group(1), Integer.parseInt(constant.group(2)), number(constant.group(1)));
        }
        Due.due("README: constants " + names, names.size(), 6);
    }

    /** A row for each promise: the call by its name and numbers, its refusals, whether it may answer NONE. */
    private static void calls(String readme, String document) {
        Matcher promise = PROMISE.matcher(document);
        Matcher row = ROW.matcher(readme);
        int promises = 0;
        while (promise.find()) {
            promises++;
            holds("a row for promise " + promises, row.find());
            Due.due("README: row of promise " + promises, Integer.parseInt(row.group(1)), promises);
            String call = promise.group(2).replaceAll("\\bint ", "");
            holds(row.group(2) + " is " + call, row.group(2).equals(call));
            Set<String> refusals = refusals(promise.group(3));
            holds(call + " is refused by " + refusals, refusals(row.group(4)).equals(refusals));
            boolean none = promise.group(3).contains("NONE");
            holds(call + " may answer NONE: " + none, row.group(3).contains("`NONE`") == none);
        }
        Due.due("README: promises", promises, 27);
        holds("no row beside these", !row.find());
    }

    private static Set<String> refusals(String text) {
        Set<String> refusals = new TreeSet<>();
        Matcher refusal = REFUSAL.matcher(text);
        while (refusal.find()) {
            refusals.add(refusal.group(1));
        }
        return refusals;
    }

    /** Every test is told, and every told one is there; so are the tests that the commands run. */
    private static void tests(String readme) {
        List<String> files = new ArrayList<>();
        for (File file : new File("src/test/java").listFiles()) {
            files.add(file.getName().replace(".java", ""));
        }
        for (String name : files) {
            holds(name + " is told of", readme.contains("`" + name + "`"));
        }
        Matcher told = Pattern.compile("`(\\w+Test)`|build/own (\\w+)").matcher(readme);
        while (told.find()) {
            String name = told.group(1) == null ? told.group(2) : told.group(1);
            holds(name + " is there", files.contains(name));
        }
    }

    private static void classes(String readme) {
        for (Class<?> inside : LeadPress.class.getDeclaredClasses()) {
            holds(inside.getSimpleName() + " is told of", readme.contains("`" + inside.getSimpleName() + "`"));
        }
    }
}
