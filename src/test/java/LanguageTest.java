import java.io.IOException;
import java.lang.reflect.Constructor;
import java.lang.reflect.Field;
import java.lang.reflect.Method;
import java.lang.reflect.Modifier;
import java.util.Arrays;
import java.util.List;
import java.util.Set;
import java.util.TreeSet;
import java.util.regex.Matcher;
import java.util.regex.Pattern;

/** The class's face by reflection, and those rules of LANGUAGE.md that its text can show. */
public final class LanguageTest {
    private static final List<String> FACE = List.of(
        "int coins(int,int)", "int plot(int,int,int)", "int lease(int,int,int,int)",
        "boolean rates(int,int,int)", "int worth(int)", "int interest(int,int)", "int bears(int,int)",
        "int decree(int)", "int act(int,int)", "int year()", "boolean due(int,int)", "int saved(int)",
        "int heap(int)", "int works(int)", "boolean tax(int)", "boolean stake(int,int,int)",
        "int quarrel(int,int)", "int border(int,int,int)", "int told(int,int)", "int chain(int,int,int)",
        "int has(int)", "int count(int)");
    private static final String[] FORBIDDEN = {"throw", "throws", "try", "catch", "finally", "synchronized",
        "assert", "protected", "native", "volatile", "Object", "System\\.(?!arraycopy)", "\\w+Exact", "->",
        "::", "import (?!java\\.util\\.(ArrayList|List|Arrays);)", "package", "Random", "Thread"};

    private static final Check check = new Check();

    public static void main(String[] args) throws IOException {
        check.part("face");
        face();
        check.part("classes inside");
        int classes = 0;
        for (Class<?> inside : AfterFire.class.getDeclaredClasses()) {
            classes++;
            check.holds(inside + " is not static", Modifier.isStatic(inside.getModifiers()));
            members(inside);
        }
        check.holds(classes + " classes are too many", classes <= 11);
        members(AfterFire.class);
        check.part("text");
        text(Project.text("src/main/java/AfterFire.java"));
        check.end();
    }

    private static void face() {
        Set<String> found = new TreeSet<>();
        for (Method m : AfterFire.class.getDeclaredMethods()) {
            if (!Modifier.isPrivate(m.getModifiers())) {
                found.add(signature(m));
                check.holds(m + " is not a plain public method", m.getModifiers() == Modifier.PUBLIC);
            }
        }
        check.holds("the methods are " + found, found.equals(new TreeSet<>(FACE)));
        Constructor<?>[] made = AfterFire.class.getDeclaredConstructors();
        check.holds("one public constructor", made.length == 1 && made[0].getParameterCount() == 0
            && Modifier.isPublic(made[0].getModifiers()));
        for (Field f : AfterFire.class.getDeclaredFields()) {
            check.holds(f + " can be seen", Modifier.isPrivate(f.getModifiers()) || f.getName().equals("NONE"));
        }
        check.holds("the class is public and final",
            AfterFire.class.getModifiers() == (Modifier.PUBLIC | Modifier.FINAL));
    }

    private static String signature(Method m) {
        StringBuilder text = new StringBuilder(m.getReturnType().getName());
        text.append(' ').append(m.getName()).append('(');
        Class<?>[] types = m.getParameterTypes();
        for (int i = 0; i < types.length; i++) {
            text.append(i == 0 ? "" : ",").append(types[i].getName());
        }
        return text.append(')').toString();
    }

    private static void members(Class<?> c) {
        Set<String> names = new TreeSet<>();
        for (String line : FACE) {
            names.add(line.replaceAll(".* (\\w+)\\(.*", "$1"));
        }
        int fields = 0;
        for (Field f : c.getDeclaredFields()) {
            boolean fixed = Modifier.isStatic(f.getModifiers());
            check.holds(f + " is static and not final", !fixed || Modifier.isFinal(f.getModifiers()));
            fields += fixed ? 0 : 1;
        }
        check.holds(c + " has " + fields + " fields", fields <= 20);
        for (Method m : c.getDeclaredMethods()) {
            check.holds(m + " has too many parameters", m.getParameterCount() <= 7);
            boolean ofFace = c == AfterFire.class && Modifier.isPublic(m.getModifiers());
            check.holds(m + " bears a public method's name", ofFace || !names.contains(m.getName()));
        }
    }

    private static void text(String source) {
        String code = source.replaceAll("(?s)/\\*.*?\\*/", "").replaceAll("//[^\n]*", "");
        for (String word : FORBIDDEN) {
            String edge = Character.isLetter(word.charAt(0)) ? "\\b" : "";
            String close = Character.isLetter(word.charAt(word.length() - 1)) ? "\\b" : "";
            Matcher m = Pattern.compile(edge + word + close).matcher(code);
            check.holds("the text has " + word, !m.find());
        }
        int begun = -1;
        String[] lines = source.split("\n");
        for (int i = 0; i < lines.length; i++) {
            if (lines[i].matches("    (    )?(public|private) [^=;]*\\(.*")) {
                begun = i;
            } else if (begun >= 0 && lines[i].matches("    (    )?}")) {
                check.holds("the method of line " + (begun + 1) + " is long", i - begun < 60);
                begun = -1;
            }
        }
        check.holds("characters above 255", source.chars().allMatch(c -> c < 256));
        check.holds("lines are " + Arrays.asList(lines).size(), lines.length > 100);
    }
}
