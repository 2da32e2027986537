import java.lang.reflect.Field;
import java.lang.reflect.Method;
import java.lang.reflect.Modifier;
import java.nio.file.Files;
import java.nio.file.Path;
import java.util.ArrayList;
import java.util.Arrays;
import java.util.List;
import java.util.Map;
import java.util.TreeMap;
import java.util.regex.Matcher;
import java.util.regex.Pattern;

/** What of ../shared/LANGUAGE.md a machine can look at without a parser: the face, and words that must not stand. */
public final class RulesTest {
    private static final String FACE = "letter1 moor0 person2 owns1 loan2 go2 lend3 keep2 need2 sum1 days1 behind3"
        + " firstShort1 lasts1 bestCell2 takes2 worst1 newcomer2 leaves1 enough0 help2 net1 loans1 survey1 bestSurvey0"
        + " quarrel4 two2 crowd1 raise0 easter3 whatIs2 row1 judge1 clear0 lots3 image0 on0 count1";
    private static final String[] FORBIDDEN = {"\\bthrow\\b", "\\bthrows\\b", "\\btry\\b", "\\bcatch\\b", "\\bassert\\b",
        "\\bsynchronized\\b", "\\bimport\\b", "\\bpackage\\b", "->", "::", "\\.equals\\(", "\\.hashCode\\(", "\\bnative\\b",
        "\\bprotected\\b", "\\bObject\\b", "\\bSystem\\.(?!arraycopy)", "\\bfor \\(;;\\)", "while \\(true\\)", "Exact\\("};

    private static int wrong = 0;

    private RulesTest() {
    }

    private static void must(boolean is, String what) {
        if (!is) {
            wrong++;
            System.out.println("not so: " + what);
        }
    }

    public static void main(String[] args) throws Exception {
        face();
        members(AloneIsAQuantity.class);
        for (Class<?> inside : AloneIsAQuantity.class.getDeclaredClasses()) {
            must(Modifier.isStatic(inside.getModifiers()), inside + " is static");
            must(Modifier.isPrivate(inside.getModifiers()), inside + " is private");
            members(inside);
        }
        must(AloneIsAQuantity.class.getDeclaredClasses().length < 12, "few classes");
        words();
        System.out.println("RulesTest: " + wrong + " wrong");
        if (wrong > 0) {
            System.exit(1);
        }
    }

    private static void face() {
        Class<?> c = AloneIsAQuantity.class;
        must(Modifier.isPublic(c.getModifiers()) && Modifier.isFinal(c.getModifiers()), "public and final");
        must(c.getDeclaredConstructors().length == 1, "one constructor");
        must(c.getConstructors().length == 1 && c.getConstructors()[0].getParameterCount() == 0, "it is public");
        Map<String, Integer> due = new TreeMap<>();
        for (String one : FACE.split(" ")) {
            due.put(one.substring(0, one.length() - 1), one.charAt(one.length() - 1) - '0');
        }
        Map<String, Integer> there = new TreeMap<>();
        for (Method m : c.getDeclaredMethods()) {
            if (Modifier.isPublic(m.getModifiers())) {
                must(!there.containsKey(m.getName()), "one " + m.getName());
                must(m.getReturnType() == int.class && !Modifier.isStatic(m.getModifiers()), m + " answers an int");
                must(Arrays.stream(m.getParameterTypes()).allMatch(t -> t == int.class), m + " takes ints");
                there.put(m.getName(), m.getParameterCount());
            } else {
                must(Modifier.isPrivate(m.getModifiers()), m + " is private");
            }
        }
        must(due.equals(there), "the face " + due + " is " + there);
        for (Field f : c.getDeclaredFields()) {
            must(Modifier.isPrivate(f.getModifiers()), f + " is private");
        }
    }

    private static void members(Class<?> c) {
        List<String> names = new ArrayList<>();
        for (String one : FACE.split(" ")) {
            names.add(one.substring(0, one.length() - 1));
        }
        int fields = 0;
        for (Field f : c.getDeclaredFields()) {
            boolean constant = Modifier.isStatic(f.getModifiers());
            must(!constant || Modifier.isFinal(f.getModifiers()), f + " is final");
            fields += constant ? 0 : 1;
        }
        must(fields <= 20, c + " has few fields");
        for (Method m : c.getDeclaredMethods()) {
            must(m.getParameterCount() <= 7, m + " takes few");
            must(Modifier.isPublic(m.getModifiers()) || !names.contains(m.getName()), m + " bears a name of the face");
        }
    }

    private static void words() throws Exception {
        String source = Files.readString(Path.of("src/main/java/AloneIsAQuantity.java"));
        must(source.chars().allMatch(c -> c == '\n' || c >= ' ' && c < 127), "plain signs alone");
        String code = source.replaceAll("(?s)/\\*.*?\\*/", "").replaceAll("//[^\n]*", "")
            .replaceAll("\"[^\"\n]*\"", "\"\"");
        for (String word : FORBIDDEN) {
            Matcher m = Pattern.compile(word).matcher(code);
            must(!m.find(), "no " + word);
        }
        // An index and a length stand in the one class that looks at them, and nowhere else.
        int guarded = code.indexOf("class Numbers");
        int behind = code.indexOf("class Moor");
        must(guarded >= 0 && behind > guarded, "Numbers stands before Moor");
        must(!(code.substring(0, guarded) + code.substring(behind)).contains("["), "no array outside of Numbers");
        int lines = 0;
        for (String line : code.split("\n")) {
            boolean opens = line.matches(" {4}(?: {4})?[a-z].*\\) \\{");
            lines = opens ? 0 : lines + 1;
            must(lines <= 60 || !line.matches(" {4}(?: {4})?\\}"), "short: up to " + line);
        }
    }
}
