import java.io.IOException;
import java.lang.reflect.Field;
import java.lang.reflect.Method;
import java.lang.reflect.Modifier;
import java.nio.file.Files;
import java.nio.file.Path;
import java.util.ArrayList;
import java.util.Arrays;
import java.util.List;
import java.util.Set;
import java.util.TreeSet;
import java.util.regex.Matcher;
import java.util.regex.Pattern;

/** The rules of LANGUAGE.md that can be seen in the class or in its text; run where src/main/java is. */
public final class LanguageTest {
    private static final Set<String> FACE = new TreeSet<>(List.of(
        "int feed(int, int, int, int, int)", "int trim(int)", "int compile()", "int errorAt()", "int count(int)",
        "int begin(int, long)", "int act(int, int)", "int reply(int, int)", "int pass()",
        "boolean can(boolean, int, int)", "int moves()", "int state()", "int told(int)", "int track(int, int)",
        "int pool(int)", "int stack(int, int)", "int move(int, int)", "int back(int)", "long z()",
        "double mean(int)", "long digest()"));
    private static final List<String> BANNED = List.of("import ", "->", "::", "synchronized", "assert ", "finally",
        "try ", "catch", "Exact", "instanceof", "static {", "hashCode", "toString", "equals", "var ", "package ",
        "public static", "protected", "@", "getMessage", "System.", "Object ", "enum ");
    private static int wrong = 0;
    private static int checked = 0;

    public static void main(String[] args) throws IOException {
        face();
        for (Class<?> inside : RuleStack.class.getDeclaredClasses()) {
            insideClass(inside);
        }
        due("at most twelve classes", RuleStack.class.getDeclaredClasses().length < 12);
        text(Files.readString(Path.of("src/main/java/RuleStack.java")));
        System.out.println(checked + " rules checked");
        if (wrong != 0) {
            System.exit(1);
        }
    }

    private static void due(String what, boolean holds) {
        checked++;
        if (!holds) {
            wrong++;
            System.out.println("not so: " + what);
        }
    }

    private static void face() {
        Class<?> x = RuleStack.class;
        due("the class is public and final", Modifier.isPublic(x.getModifiers()) && Modifier.isFinal(x.getModifiers()));
        due("one public constructor", x.getDeclaredConstructors().length == 1
            && Modifier.isPublic(x.getDeclaredConstructors()[0].getModifiers()));
        Set<String> found = new TreeSet<>();
        for (Method m : x.getDeclaredMethods()) {
            if (Modifier.isPrivate(m.getModifiers())) {
                due("no private method bears the name of a public one: " + m.getName(), !isOfFace(m.getName()));
                continue;
            }
            StringBuilder types = new StringBuilder();
            for (Class<?> type : m.getParameterTypes()) {
                types.append(types.length() == 0 ? "" : ", ").append(type.getSimpleName());
            }
            found.add(m.getReturnType().getSimpleName() + " " + m.getName() + "(" + types + ")");
        }
        due("the methods of the document and no others: " + found, found.equals(FACE));
        fields(x);
    }

    private static boolean isOfFace(String name) {
        return FACE.stream().anyMatch(line -> line.contains(" " + name + "("));
    }

    private static void insideClass(Class<?> inside) {
        due(inside + " is static", Modifier.isStatic(inside.getModifiers()));
        due(inside + " is private", Modifier.isPrivate(inside.getModifiers()));
        for (Method m : inside.getDeclaredMethods()) {
            due(m + " is not named as one of the face", !isOfFace(m.getName()));
            due(m + " has at most seven parameters", m.getParameterCount() <= 7);
        }
        fields(inside);
    }

    private static void fields(Class<?> x) {
        int own = 0;
        for (Field f : x.getDeclaredFields()) {
            if (Modifier.isStatic(f.getModifiers())) {
                due(f + " is final", Modifier.isFinal(f.getModifiers()));
                due(f + " is a constant", List.of("int", "long", "boolean", "char", "String", "int[]")
                    .contains(f.getType().getSimpleName()));
            } else {
                own++;
                due(f + " is of the face", x != RuleStack.class || Modifier.isPrivate(f.getModifiers()));
            }
        }
        due(x + " has at most twenty fields", own <= 20);
    }

    private static void text(String source) {
        String bare = source.replaceAll("(?s)/\\*.*?\\*/", "").replaceAll("//[^\n]*", "").replaceAll("\"[^\"\n]*\"", "\"\"");
        for (String word : BANNED) {
            due("no " + word, !bare.contains(word));
        }
        due("signs 1 to 127 alone", source.chars().allMatch(c -> c > 0 && c < 128));
        Matcher library = Pattern.compile("\\b(Math|String|Integer|Long|Arrays|Double)\\.(\\w+)").matcher(bare);
        while (library.find()) {
            due("the library holds " + library.group(), library.group().matches("Math\\.(min|max|abs)"));
        }
        Matcher made = Pattern.compile("\\bnew (\\w+)").matcher(bare);
        while (made.find()) {
            String before = bare.substring(Math.max(0, made.start() - 6), made.start());
            due("made in a constructor or thrown: " + made.group(), before.equals("throw ") || isInConstructor(bare, made.start()));
        }
        List<String> long60 = new ArrayList<>();
        Matcher method = Pattern.compile("\n( +)[^\n;=]*\\) *(throws [^{]*)?\\{\n(.*?)\n\\1\\}", Pattern.DOTALL).matcher(source);
        while (method.find()) {
            if (method.group(3).split("\n").length > 60) {
                long60.add(method.group().trim().split("\n")[0]);
            }
        }
        due("methods of at most sixty lines, but " + long60, long60.isEmpty());
    }

    private static boolean isInConstructor(String bare, int at) {
        Matcher heads = Pattern.compile("\n +(public |private |static )*(\\w+ |\\w+\\[\\] )?(\\w+)\\([^;{]*\\)[^;{]*\\{\n").matcher(bare);
        String last = "";
        String lastType = "";
        while (heads.find() && heads.start() < at) {
            if (!Arrays.asList("if", "for", "while", "switch").contains(heads.group(3)) && !"else ".equals(heads.group(2))) {
                last = heads.group(3);
                lastType = heads.group(2);
            }
        }
        return lastType == null && Character.isUpperCase(last.charAt(0));
    }
}
