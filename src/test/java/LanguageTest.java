import java.lang.reflect.Constructor;
import java.lang.reflect.Field;
import java.lang.reflect.Method;
import java.lang.reflect.Modifier;
import java.nio.file.Files;
import java.nio.file.Path;
import java.util.ArrayList;
import java.util.Arrays;
import java.util.List;
import java.util.TreeSet;
import java.util.regex.Matcher;
import java.util.regex.Pattern;

/** What of ../shared/LANGUAGE.md can be seen without running: the face, the classes inside, words that may not stand. */
public final class LanguageTest {
    private static int wrong = 0;

    public static void main(String[] args) throws Exception {
        face();
        classesInside();
        text();
        System.out.println("LanguageTest: " + wrong + " breaches");
        if (wrong != 0) System.exit(1);
    }

    private static void check(boolean good, String what) {
        if (!good) {
            wrong++;
            System.out.println("breach: " + what);
        }
    }

    private static final String[] FACE = {"feed(int,int,int,int,int)int", "end(int)boolean", "program(int)int", "rule()int",
        "fault(int)int", "at(int,int)int", "size(int,int)int", "run(int,int,int,int)int", "judge(int,int,int)int",
        "ruleOf(int,int)int", "places(int,int)int", "apply(int,int,int,int)boolean", "item(int,int)int", "clear(int)boolean",
        "make(int,int,int)int", "blame(int,int)int", "cut(int,int,int)int", "registers(int,int)int", "clash(int,int,int)int"};

    private static String told(Method m) {
        List<String> types = new ArrayList<>();
        for (Class<?> c : m.getParameterTypes()) types.add(c.getName());
        return m.getName() + "(" + String.join(",", types) + ")" + m.getReturnType().getName();
    }

    private static void face() {
        Class<?> c = SameAfter.class;
        check(Modifier.isPublic(c.getModifiers()) && Modifier.isFinal(c.getModifiers()), "public final class");
        TreeSet<String> open = new TreeSet<>();
        TreeSet<String> names = new TreeSet<>();
        for (Method m : c.getDeclaredMethods()) {
            if (!Modifier.isPrivate(m.getModifiers())) {
                open.add(told(m));
                names.add(m.getName());
                check(Modifier.isPublic(m.getModifiers()) && !Modifier.isStatic(m.getModifiers()), "not public: " + m);
            }
        }
        check(open.equals(new TreeSet<>(Arrays.asList(FACE))), "the face has " + open);
        List<Class<?>> all = new ArrayList<>(List.of(c.getDeclaredClasses()));
        all.add(c);
        for (Class<?> k : all) {
            for (Method m : k.getDeclaredMethods()) {
                boolean ofFace = k == c && Modifier.isPublic(m.getModifiers());
                check(ofFace || !names.contains(m.getName()), "a name of the face again: " + m);
            }
        }
        for (Field f : c.getDeclaredFields()) {
            boolean none = f.getName().equals("NONE") && Modifier.isPublic(f.getModifiers()) && Modifier.isFinal(f.getModifiers());
            check(none || Modifier.isPrivate(f.getModifiers()), "open field " + f);
        }
        Constructor<?>[] made = c.getDeclaredConstructors();
        check(made.length == 1 && Modifier.isPublic(made[0].getModifiers()) && made[0].getParameterCount() == 0, "the constructor");
    }

    private static void classesInside() {
        Class<?>[] inside = SameAfter.class.getDeclaredClasses();
        check(inside.length <= 12, "classes: " + inside.length);
        List<Class<?>> all = new ArrayList<>(List.of(inside));
        for (Class<?> c : inside) {
            check(Modifier.isStatic(c.getModifiers()), "not static: " + c);
            check(c.getDeclaredClasses().length == 0, "classes inside " + c);
        }
        all.add(SameAfter.class);
        for (Class<?> c : all) {
            int fields = 0;
            for (Field f : c.getDeclaredFields()) {
                if (Modifier.isStatic(f.getModifiers())) {
                    check(Modifier.isFinal(f.getModifiers()), "static and not final: " + f);
                } else {
                    fields++;
                }
            }
            check(fields <= 20, "fields of " + c + ": " + fields);
            for (Method m : c.getDeclaredMethods()) check(m.getParameterCount() <= 7, "parameters of " + m);
        }
    }

    private static void text() throws Exception {
        String whole = Files.readString(Path.of("src/main/java/SameAfter.java"));
        String code = whole.replaceAll("(?s)/\\*.*?\\*/", "").replaceAll("//[^\n]*", "");
        String[] words = {"throw", "throws", "try", "catch", "finally", "synchronized", "assert", "import", "package", "Object",
            "hashCode", "toString", "instanceof", "yield", "native", "volatile", "Thread", "Random", "Exact"};
        for (String w : words) check(!Pattern.compile("\\b" + w + "\\b").matcher(code).find(), "the word " + w);
        check(!code.contains("::"), "a method reference");
        // '->' stands in no code: the RULES' own is put together of '-' and '>'.
        check(!code.contains("->"), "a lambda, or an arrow of a switch");
        check(!Pattern.compile("for \\([^;]*;\\s*;").matcher(code).find(), "a for without an end");
        check(!Pattern.compile("\\bwhile \\(").matcher(code).find(), "a while: its end is not seen from its lines");
        for (char c : whole.toCharArray()) check(c < 128, "a sign beyond 127");
        methods(code);
    }

    private static void methods(String code) {
        Matcher m = Pattern.compile("\n( {4}| {8})[A-Za-z][^\n;=]*\\) \\{\n").matcher(code);
        while (m.find()) {
            int end = code.indexOf("\n" + m.group(1) + "}", m.end());
            long lines = code.substring(m.end(), end).lines().count();
            check(lines <= 60, lines + " lines: " + m.group().trim());
        }
    }
}
