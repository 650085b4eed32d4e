import java.lang.reflect.Constructor;
import java.lang.reflect.Field;
import java.lang.reflect.Method;
import java.lang.reflect.Modifier;
import java.io.PrintWriter;
import java.io.StringWriter;
import java.nio.file.Files;
import java.nio.file.Path;
import java.util.ArrayList;
import java.util.Arrays;
import java.util.List;
import java.util.Map;
import java.util.Set;
import java.util.TreeMap;
import java.util.TreeSet;
import java.util.regex.Matcher;
import java.util.regex.Pattern;
import java.util.spi.ToolProvider;

/** What of ../shared/LANGUAGE.md can be seen without running: the face, the classes inside, words that may not stand. */
public final class LanguageTest {
    private static int wrong = 0;

    public static void main(String[] args) throws Exception {
        face();
        classesInside();
        text();
        bytecode();
        System.out.println("LanguageTest: " + wrong + " breaches");
        if (wrong != 0) System.exit(1);
    }

    private static void check(boolean good, String what) {
        if (!good) {
            wrong++;
            System.out.println("breach: " + what);
        }
    }

    private static final String[] FACE = {"feed(int,int,int,int,int)int", "end(int)boolean", "program(int)int", "rule()int",
        "fault(int)int", "at(int,int)int", "size(int,int)int", "run(int,int,int,int)int", "judge(int,int,int)int",
        "ruleOf(int,int)int", "places(int,int)int", "apply(int,int,int,int)boolean", "item(int,int)int", "clear(int)boolean",
        "make(int,int,int)int", "blame(int,int)int", "cut(int,int,int)int", "registers(int,int)int", "clash(int,int,int)int"};

    private static String told(Method m) {
        List<String> types = new ArrayList<>();
        for (Class<?> c : m.getParameterTypes()) types.add(c.getName());
        return m.getName() + "(" + String.join(",", types) + ")" + m.getReturnType().getName();
    }

    private static void face() {
        Class<?> c = SameAfter.class;
        check(Modifier.isPublic(c.getModifiers()) && Modifier.isFinal(c.getModifiers()), "public final class");
        TreeSet<String> open = new TreeSet<>();
        TreeSet<String> names = new TreeSet<>();
        for (Method m : c.getDeclaredMethods()) {
            if (!Modifier.isPrivate(m.getModifiers())) {
                open.add(told(m));
                names.add(m.getName());
                check(Modifier.isPublic(m.getModifiers()) && !Modifier.isStatic(m.getModifiers()), "not public: " + m);
            }
        }
        check(open.equals(new TreeSet<>(Arrays.asList(FACE))), "the face has " + open);
        List<Class<?>> all = new ArrayList<>(List.of(c.getDeclaredClasses()));
        all.add(c);
        for (Class<?> k : all) {
            for (Method m : k.getDeclaredMethods()) {
                boolean ofFace = k == c && Modifier.isPublic(m.getModifiers());
                check(ofFace || !names.contains(m.getName()), "a name of the face again: " + m);
            }
        }
        for (Field f : c.getDeclaredFields()) {
            boolean none = f.getName().equals("NONE") && Modifier.isPublic(f.getModifiers()) && Modifier.isFinal(f.getModifiers());
            check(none || Modifier.isPrivate(f.getModifiers()), "open field " + f);
        }
        Constructor<?>[] made = c.getDeclaredConstructors();
        check(made.length == 1 && Modifier.isPublic(made[0].getModifiers()) && made[0].getParameterCount() == 0, "the constructor");
    }

    private static void classesInside() {
        Class<?>[] inside = SameAfter.class.getDeclaredClasses();
        check(inside.length <= 12, "classes: " + inside.length);
        List<Class<?>> all = new ArrayList<>(List.of(inside));
        for (Class<?> c : inside) {
            check(Modifier.isStatic(c.getModifiers()), "not static: " + c);
            check(c.getDeclaredClasses().length == 0, "classes inside " + c);
        }
        all.add(SameAfter.class);
        for (Class<?> c : all) {
            int fields = 0;
            for (Field f : c.getDeclaredFields()) {
                if (Modifier.isStatic(f.getModifiers())) {
                    check(Modifier.isFinal(f.getModifiers()), "static and not final: " + f);
                } else {
                    fields++;
                }
            }
            check(fields <= 20, "fields of " + c + ": " + fields);
            for (Method m : c.getDeclaredMethods()) check(m.getParameterCount() <= 7, "parameters of " + m);
        }
    }

    private static void text() throws Exception {
        String whole = Files.readString(Path.of("src/main/java/SameAfter.java"));
        String code = whole.replaceAll("(?s)/\\*.*?\\*/", "").replaceAll("//[^\n]*", "");
        String[] words = {"throw", "throws", "try", "catch", "finally", "synchronized", "assert", "import", "package", "Object",
            "hashCode", "toString", "instanceof", "yield", "native", "volatile", "Thread", "Random", "Exact"};
        for (String w : words) check(!Pattern.compile("\\b" + w + "\\b").matcher(code).find(), "the word " + w);
        check(!code.contains("::"), "a method reference");
        // '->' stands in no code: the RULES' own is put together of '-' and '>'.
        check(!code.contains("->"), "a lambda, or an arrow of a switch");
        check(!Pattern.compile("for \\([^;]*;\\s*;").matcher(code).find(), "a for without an end");
        check(!Pattern.compile("\\bwhile \\(").matcher(code).find(), "a while: its end is not seen from its lines");
        for (char c : whole.toCharArray()) check(c < 128, "a sign beyond 127");
        methods(code);
    }

    private static void methods(String code) {
        Matcher m = Pattern.compile("\n( {4}| {8})[A-Za-z][^\n;=]*\\) \\{\n").matcher(code);
        while (m.find()) {
            int end = code.indexOf("\n" + m.group(1) + "}", m.end());
            long lines = code.substring(m.end(), end).lines().count();
            check(lines <= 60, lines + " lines: " + m.group().trim());
        }
    }

    private static final int DEEPEST = 8;
    private static final Set<String> LIBRARY = Set.of("java/lang/Object.<init>", "java/lang/Math.max", "java/lang/Math.min",
        "java/lang/System.arraycopy", "java/lang/String.length", "java/lang/String.charAt");
    // Its depth is its argument v, of six VARIABLES.
    private static final String RECURSION = "SameAfter$Registers.deal";

    private static final Pattern CLASS = Pattern.compile("^[a-z ]*class ([\\w$]+).*\\{");
    private static final Pattern METHOD = Pattern.compile("^  (?:\\S.* )?([\\w$]+)\\(.*\\);");
    private static final Pattern INVOKE = Pattern.compile("^ +\\d+: invoke\\w+ .*// (?:Interface)?Method (\\S+):");
    private static final Pattern NEW = Pattern.compile("^ +\\d+: (new|newarray|anewarray|multianewarray) .*");

    /** What each method calls: of the library only what is listed, and calls go at most eight deep. */
    private static void bytecode() throws Exception {
        Map<String, Set<String>> calls = new TreeMap<>();
        String owner = "";
        String method = "";
        for (String line : disassembled().split("\n")) {
            Matcher c = CLASS.matcher(line);
            Matcher m = METHOD.matcher(line);
            Matcher i = INVOKE.matcher(line);
            if (c.find()) {
                owner = c.group(1);
            } else if (m.find()) {
                String name = m.group(1);
                method = owner + "." + (owner.equals(name) ? "<init>" : name);
                calls.put(method, new TreeSet<>());
            } else if (i.find()) {
                String called = i.group(1).replace("\"", "");
                calls.get(method).add(called.contains(".") ? called : owner + "." + called);
            } else if (NEW.matcher(line).find()) {
                check(method.endsWith("<init>"), "made outside a constructor: " + method);
            }
        }
        check(calls.size() > 100, "methods seen: " + calls.size());
        for (String from : calls.keySet()) {
            check(deepest(calls, from, new ArrayList<>()) <= DEEPEST, "calls go too deep from " + from);
        }
    }

    private static String disassembled() throws Exception {
        Path here = Path.of(SameAfter.class.getProtectionDomain().getCodeSource().getLocation().toURI());
        List<String> args = new ArrayList<>(List.of("-c", "-p", here.resolve("SameAfter.class").toString()));
        for (Class<?> c : SameAfter.class.getDeclaredClasses()) args.add(here.resolve(c.getName() + ".class").toString());
        StringWriter out = new StringWriter();
        PrintWriter writer = new PrintWriter(out);
        ToolProvider.findFirst("javap").orElseThrow().run(writer, writer, args.toArray(new String[0]));
        writer.flush();
        return out.toString();
    }

    private static int deepest(Map<String, Set<String>> calls, String method, List<String> open) {
        int below = 0;
        open.add(method);
        for (String next : calls.getOrDefault(method, Set.of())) {
            if (!next.startsWith("SameAfter")) {
                check(LIBRARY.contains(next), method + " calls " + next);
            } else if (open.contains(next)) {
                check(next.equals(RECURSION) && next.equals(method), method + " calls itself by " + next);
            } else {
                below = Math.max(below, deepest(calls, next, open));
            }
        }
        open.remove(open.size() - 1);
        return below + 1;
    }
}
