import java.lang.reflect.Constructor;
import java.lang.reflect.Field;
import java.lang.reflect.Method;
import java.lang.reflect.Modifier;
import java.nio.file.Files;
import java.nio.file.Path;
import java.util.Arrays;
import java.util.Set;
import java.util.TreeSet;
import java.util.regex.Matcher;
import java.util.regex.Pattern;

/** The face of the class, and those of LANGUAGE.md's rules that a reader of text and members can see. */
public final class LanguageTest {
    private static final Set<String> FACE = new TreeSet<>(Arrays.asList(
        "int doing(int,int)", "int facts(int,boolean,int,int)", "int effect(int,int,int,int)", "int tree()",
        "int node(int,int,int,int)", "int forget()", "int creature()", "int give(int,int)", "int ask(int)",
        "int ticks(int)", "int world(int)", "int cell(int,int,long)", "int row(int,int,int)", "long has(int,int)",
        "int told(int,int,int)", "int asked(int,int)", "int plan(int,int,int)", "int count(int,int)", "int all(int)",
        "int part(int,int,int)"));
    private static int wrong = 0;

    private static void due(String what, Object got, Object want) {
        if (!want.equals(got)) {
            wrong++;
            System.out.println(what + ": " + got + ", due is " + want);
        }
    }

    public static void main(String[] args) throws Exception {
        Path root = Path.of(args.length > 0 ? args[0] : ".");
        String source = Files.readString(root.resolve("src/main/java/WishTrees.java"));
        face();
        classes();
        words(source);
        functions(source);
        if (wrong > 0) {
            System.exit(1);
        }
        System.out.println("LanguageTest: all is as due");
    }

    private static void face() {
        Set<String> methods = new TreeSet<>();
        Set<String> names = new TreeSet<>();
        for (Method m : WishTrees.class.getDeclaredMethods()) {
            if (Modifier.isPrivate(m.getModifiers()) || m.isSynthetic()) {
                continue;
            }
            StringBuilder text = new StringBuilder(m.getReturnType() + " " + m.getName() + "(");
            for (Class<?> p : m.getParameterTypes()) {
                text.append(text.charAt(text.length() - 1) == '(' ? "" : ",").append(p);
            }
            methods.add(text.append(")").toString());
            names.add(m.getName());
            due("modifiers of " + m.getName(), Modifier.toString(m.getModifiers()), "public");
        }
        due("the face", methods, FACE);
        due("the class", Modifier.toString(WishTrees.class.getModifiers()), "public final");
        due("constructors", WishTrees.class.getDeclaredConstructors().length, 1);
        due("the constructor", Modifier.toString(WishTrees.class.getDeclaredConstructors()[0].getModifiers()), "public");
        Set<String> constants = new TreeSet<>();
        for (Field f : WishTrees.class.getDeclaredFields()) {
            if (!Modifier.isPrivate(f.getModifiers())) {
                constants.add(Modifier.toString(f.getModifiers()) + " " + f.getName());
            }
        }
        due("the constants", constants, new TreeSet<>(Arrays.asList("public static final BAD",
            "public static final STATE", "public static final FULL", "public static final NONE")));
        due("their values", Arrays.asList(WishTrees.BAD, WishTrees.STATE, WishTrees.FULL, WishTrees.NONE),
            Arrays.asList(-1, -2, -3, -4));
        for (Class<?> c : WishTrees.class.getDeclaredClasses()) {
            for (Method m : c.getDeclaredMethods()) {
                due("a name of the face in " + c.getName() + ", " + m.getName(), names.contains(m.getName()), false);
            }
        }
        for (Method m : WishTrees.class.getDeclaredMethods()) {
            due("a private namesake " + m, Modifier.isPrivate(m.getModifiers()) && names.contains(m.getName()), false);
        }
    }

    private static void classes() {
        Class<?>[] inside = WishTrees.class.getDeclaredClasses();
        due("at most twelve classes", inside.length < 12, true);
        fields(WishTrees.class);
        for (Class<?> c : inside) {
            due("static " + c, Modifier.isStatic(c.getModifiers()), true);
            due("not public " + c, Modifier.isPublic(c.getModifiers()) || Modifier.isProtected(c.getModifiers()), false);
            fields(c);
            for (Constructor<?> k : c.getDeclaredConstructors()) {
                due("parameters of " + k, k.getParameterCount() <= 7, true);
            }
            for (Method m : c.getDeclaredMethods()) {
                due("parameters of " + m, m.getParameterCount() <= 7, true);
            }
        }
    }

    private static void fields(Class<?> c) {
        int own = 0;
        for (Field f : c.getDeclaredFields()) {
            boolean constant = Modifier.isStatic(f.getModifiers());
            due("final " + f, !constant || Modifier.isFinal(f.getModifiers()), true);
            own += constant ? 0 : 1;
        }
        due("at most twenty fields in " + c, own <= 20, true);
    }

    private static void words(String source) {
        String bare = source.replaceAll("(?s)/\\*.*?\\*/", "").replaceAll("//.*", "");
        String[] none = {"throw", "throws", "try", "catch", "finally", "synchronized", "assert", "import", "package",
            "instanceof", "lambda", "String", "Object", "Exception", "hashCode", "equals", "toString", "Exact",
            "volatile", "native", "var", "System", "Thread"};
        for (String word : none) {
            due("the word " + word, Pattern.compile("\\b" + word + "\\b").matcher(bare).find(), false);
        }
        due("an arrow or a method reference", bare.contains("->") || bare.contains("::"), false);
        due("a quote", bare.contains("\""), false);
        due("a division by a number that may be 0", Pattern.compile("[^/*]/[^/*]|%").matcher(bare).find(), false);
        due("a sign above 127", source.chars().anyMatch(c -> c > 127), false);
    }

    /** Methods of sixty lines at most: from a head to the brace that stands in its column. */
    private static void functions(String source) {
        Matcher head = Pattern.compile("(?m)^( +)[a-zA-Z][\\w \\[\\]<>]*\\([^;{]*\\) \\{$").matcher(source);
        int found = 0;
        while (head.find()) {
            if (head.group().matches(" +(if|for|while|switch|else|do)\\b.*")) {
                continue;
            }
            found++;
            int end = source.indexOf("\n" + head.group(1) + "}", head.end());
            long lines = source.substring(head.start(), end).chars().filter(c -> c == '\n').count();
            due("short " + head.group().trim(), lines <= 60, true);
        }
        due("functions were seen", found > 60, true);
    }
}
