import java.io.IOException;
import java.lang.reflect.Method;
import java.lang.reflect.Modifier;
import java.util.HashMap;
import java.util.Map;
import java.util.Set;
import java.util.TreeSet;
import java.util.regex.Matcher;
import java.util.regex.Pattern;

/** What README.md says is true of the class and of the project as they stand. */
public final class ReadmeTest {
    private static final Check check = new Check();

    public static void main(String[] args) throws IOException {
        String readme = Project.text("README.md");
        check.part("the example");
        example(readme);
        check.part("the table of calls");
        tableOfCalls(readme);
        check.part("the list of tests");
        listOfTests(readme);
        takenPlotKeepsItsSize();
        stakeBehindPlotsToCome();
        dueTakesAnyPlot();
        check.end();
    }

    /** Each line asks one call; what it answers stands first in its comment. */
    private static void example(String readme) {
        String block = firstOf("(?s)```java\n(.*?)```", readme);
        Pattern line = Pattern.compile("int (\\w+) = court\\.(\\w+\\(.*?\\)); *// (-?\\d+): .*");
        Map<String, Long> names = new HashMap<>();
        Court court = new Court(check);
        String[] lines = block.split("\n");
        check.holds("it begins with a new court", lines[0].equals("AfterFire court = new AfterFire();"));
        for (int i = 1; i < lines.length; i++) {
            Matcher m = line.matcher(lines[i]);
            boolean told = m.matches();
            check.holds("no answer is told: " + lines[i], told);
            if (told) {
                String call = withValues(m.group(2), names);
                long answer = court.ask(call);
                check.due(call, answer, Long.parseLong(m.group(3)));
                names.put(m.group(1), answer);
            }
        }
        check.holds("it has calls", names.size() > 5);
    }

    private static String withValues(String call, Map<String, Long> names) {
        int open = call.indexOf('(');
        String args = call.substring(open);
        for (Map.Entry<String, Long> name : names.entrySet()) {
            args = args.replaceAll("\\b" + name.getKey() + "\\b", name.getValue().toString());
        }
        return call.substring(0, open) + args;
    }

    private static void tableOfCalls(String readme) {
        Set<String> face = new TreeSet<>();
        for (Method m : AfterFire.class.getDeclaredMethods()) {
            if (Modifier.isPublic(m.getModifiers())) {
                face.add(m.getName() + " " + m.getParameterCount());
            }
        }
        Set<String> rows = new TreeSet<>();
        Matcher m = Pattern.compile("(?m)^\\| `(\\w+)\\((.*)\\)` \\| .* \\| (\\S+) \\|$").matcher(readme);
        while (m.find()) {
            int takes = m.group(2).isEmpty() ? 0 : m.group(2).split(",").length;
            rows.add(m.group(1) + " " + takes);
            refusal(m.group(1), takes, m.group(3));
        }
        check.holds("the face is " + face + ", told are " + rows, face.equals(rows));
    }

    private static void refusal(String name, int takes, String told) {
        Court court = new Court(check);
        if (name.equals("year")) {
            court.run(60, "year()");
        }
        String args = "-5, ".repeat(Math.max(0, takes - 1)) + (takes > 0 ? "-5" : "");
        long due = told.equals("NONE") ? AfterFire.NONE : told.equals("false") ? 0 : Long.parseLong(told);
        court.due(name + "(" + args + ")", due);
    }

    private static void listOfTests(String readme) throws IOException {
        Set<String> listed = new TreeSet<>();
        Matcher m = Pattern.compile("(?m)^- `src/test/java/(\\w+)\\.java`:").matcher(readme);
        while (m.find()) {
            listed.add(m.group(1));
        }
        check.holds("tests are " + Project.tests() + ", listed " + listed, Project.tests().equals(listed));
    }

    private static void takenPlotKeepsItsSize() {
        check.part("a plot that is taken keeps the front and depth that it had");
        new Court(check).run("plot(0, 20045, 0)", "act(0, 5)", "act(0, 21)")
            .due("told(0, 0)", 3)
            .due("told(0, 1)", 20)
            .due("told(0, 2)", 40)
            .due("worth(0)", 40);
    }

    private static void stakeBehindPlotsToCome() {
        check.part("a stake may be set behind a plot that has not come yet, or that is the last one");
        new Court(check).run("stake(0, 0, 13)", "stake(0, 1, 28)", "plot(0, 10020, 0)")
            .due("quarrel(0, 10)", 0)
            .run("plot(0, 20020, 0)")
            .due("quarrel(0, 30)", 3)
            .run("plot(0, 30020, 0)")
            .due("quarrel(0, 60)", 5);
    }

    private static void dueTakesAnyPlot() {
        check.part("due takes any year of 0 .. 60, and any plot, however it is");
        Court court = new Court(check).run(States.BUSY).due("told(0, 0)", 1).due("told(1, 0)", 3)
            .due("told(2, 0)", 2).due("told(3, 0)", 0).due("count(0)", 3);
        for (int plot = 0; plot < 4; plot++) {
            court.run("due(" + plot + ", 0)", "due(" + plot + ", 60)")
                .refused("due(" + plot + ", -1)", "due(" + plot + ", 61)");
        }
    }

    private static String firstOf(String pattern, String text) {
        Matcher m = Pattern.compile(pattern).matcher(text);
        boolean found = m.find();
        check.holds("there is none", found);
        return found ? m.group(1) : "";
    }
}
