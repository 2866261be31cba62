import java.io.IOException;
import java.lang.reflect.Constructor;
import java.lang.reflect.Field;
import java.lang.reflect.Member;
import java.lang.reflect.Method;
import java.lang.reflect.Modifier;
import java.nio.file.Files;
import java.nio.file.Path;
import java.util.ArrayList;
import java.util.List;
import java.util.Set;
import java.util.TreeSet;
import java.util.regex.Matcher;
import java.util.regex.Pattern;

/** What of ../shared/LANGUAGE.md can be seen from the text and from the compiled classes. */
public final class LanguageTest {
    private static final String FILE = "src/main/java/TurnCabinet.java";
    private static final String[] RULED_OUT = {"throw", "throws", "try", "catch", "finally", "synchronized", "assert",
        "import", "package", "instanceof", "lambda", "protected", "volatile", "transient", "native", "yield", "var",
        "equals", "hashCode", "toString", "System", "Random", "Thread"};
    private static final Set<String> LIBRARY = Set.of("Integer.bitCount", "Integer.numberOfTrailingZeros", "Math.abs",
        "Math.max", "Math.min");
    private static final String FACE = "feed/5 end/1 house/0 fault/1 party/2 worth/2 about/1 turn/2 turnBy/4 gets/3 has/3 "
        + "swaps/1 instead/3 middle/1 pay/2 policy/3 grief/3 envy/2 kept/2 kind/1 many/1 nth/2 rival/1 beats/2 unbeaten/1 "
        + "enough/2 span/1 median/0 needed/1 pivot/1 joins/1 dream/1 drift/2 formed/1 tried/2 hold/2 now/1 leave/1 payNow/1 "
        + "crisis/0 trade/2 seats/2 above/0 undo/0 judge/2";
    private static int wrong = 0;

    public static void main(String[] args) throws IOException {
        String text = Files.readString(Path.of(FILE));
        words(withoutCommentsAndTexts(text));
        face();
        classes();
        System.out.println(wrong == 0 ? "the language is kept to" : wrong + " rules are not kept to");
        if (wrong != 0) System.exit(1);
    }

    private static void due(boolean kept, String rule) {
        if (kept) return;
        wrong++;
        System.out.println("not kept: " + rule);
    }

    private static String withoutCommentsAndTexts(String text) {
        return text.replaceAll("(?s)/\\*.*?\\*/", " ").replaceAll("//[^\n]*", " ").replaceAll("\"[^\"\n]*\"", "\"\"");
    }

    private static void words(String code) {
        for (String word : RULED_OUT) due(!Pattern.compile("\\b" + word + "\\b").matcher(code).find(), "no " + word);
        due(!code.contains("->"), "no lambda");
        due(!code.contains("::"), "no method reference");
        due(!code.contains("@"), "no annotation");
        due(!Pattern.compile("while \\(true|for \\(;;|for \\(; *;").matcher(code).find(), "each loop has an end");
        Matcher library = Pattern.compile("\\b(Integer|Math|Long|Arrays)\\.\\w+").matcher(code);
        while (library.find()) due(LIBRARY.contains(library.group()), "the library: " + library.group());
        due(code.chars().allMatch(c -> c < 128), "signs of 1 to 127");
        // Rows are made when an object is made, and by no call.
        for (String line : code.split("\n")) {
            boolean makes = Pattern.compile("\\bnew ").matcher(line).find();
            due(!makes || line.contains("private final ") || line.matches(" {8}\\w+ = new \\w+\\(.*\\);"), "made by a call: " + line);
        }
        due(Pattern.compile("\\bclass ").matcher(code).results().count() <= 12, "twelve classes");
    }

    private static void face() {
        TreeSet<String> due = new TreeSet<>(List.of(FACE.split(" ")));
        TreeSet<String> told = new TreeSet<>();
        Class<?> c = TurnCabinet.class;
        for (Method m : c.getDeclaredMethods()) {
            if (Modifier.isPrivate(m.getModifiers())) {
                due(due.stream().noneMatch(f -> f.startsWith(m.getName() + "/")), "no private method named " + m.getName());
                continue;
            }
            due(Modifier.isPublic(m.getModifiers()) && m.getReturnType() == int.class, "public int " + m.getName());
            for (Class<?> type : m.getParameterTypes()) due(type == int.class, "int for " + m.getName());
            told.add(m.getName() + "/" + m.getParameterCount());
        }
        due(told.equals(due), "the face is " + due + ", not " + told);
        due(Modifier.isPublic(c.getModifiers()) && Modifier.isFinal(c.getModifiers()), "public final class");
        List<Member> others = new ArrayList<>(List.of(c.getDeclaredFields()));
        others.removeIf(f -> Modifier.isPrivate(f.getModifiers()) || f.getName().equals("NONE"));
        due(others.isEmpty(), "no field but NONE is seen");
        Constructor<?>[] constructors = c.getDeclaredConstructors();
        due(constructors.length == 1 && Modifier.isPublic(constructors[0].getModifiers()), "one constructor");
    }

    private static void classes() {
        Set<String> face = new TreeSet<>();
        for (String method : FACE.split(" ")) face.add(method.substring(0, method.indexOf('/')));
        for (Class<?> c : TurnCabinet.class.getDeclaredClasses()) {
            due(Modifier.isStatic(c.getModifiers()) && Modifier.isFinal(c.getModifiers()), "static final " + c.getName());
            due(!Modifier.isPublic(c.getModifiers()) && !Modifier.isProtected(c.getModifiers()), "not public: " + c.getName());
            int fields = 0;
            for (Field f : c.getDeclaredFields()) {
                if (!Modifier.isStatic(f.getModifiers())) fields++;
                else due(Modifier.isFinal(f.getModifiers()), "final " + f.getName());
            }
            due(fields <= 20, "twenty fields at most in " + c.getName());
            for (Method m : c.getDeclaredMethods()) {
                due(!face.contains(m.getName()), "no other method named " + m.getName());
                due(m.getParameterCount() <= 7, "seven parameters at most: " + m.getName());
            }
        }
    }
}
