import java.io.IOException;
import java.lang.reflect.Field;
import java.lang.reflect.Method;
import java.lang.reflect.Modifier;
import java.nio.file.Files;
import java.nio.file.Path;
import java.util.ArrayList;
import java.util.HashMap;
import java.util.HashSet;
import java.util.List;
import java.util.Map;
import java.util.Set;
import java.util.TreeSet;
import java.util.regex.Matcher;
import java.util.regex.Pattern;

/** Those rules of LANGUAGE.md that can be seen in the source and in the compiled class. */
public final class LanguageTest {
    private static final Path SOURCE = Path.of("src/main/java/CanalCompany.java");
    private static final Path DOCUMENT = Path.of("../shared/DOC.md");
    private static final Pattern HEAD = Pattern.compile(
            "(?m)^ +(?:public |private |static |final )*[\\w\\[\\]]+ (\\w+)\\(([^)]*)\\) \\{");
    private static final Check CHECK = new Check();

    private final String code;
    // By name: the lines of each method's body, all bodies of one name together for the calls in them.
    private final Map<String, StringBuilder> bodies = new HashMap<>();
    private final Map<String, Integer> depths = new HashMap<>();

    private LanguageTest(String code) {
        this.code = code;
    }

    public static void main(String[] args) throws IOException {
        face();
        classes();
        LanguageTest test = new LanguageTest(withoutComments(Files.readString(SOURCE)));
        test.words();
        test.methods();
        test.depthOfCalls();
        room();
        CHECK.end();
    }

    private static String withoutComments(String text) {
        return text.replaceAll("(?s)/\\*.*?\\*/", "").replaceAll("//[^\n]*", "");
    }

    /** Rule 1: the document's face, and nothing else that can be seen from outside. */
    private static void face() throws IOException {
        String doc = Files.readString(DOCUMENT);
        String listed = doc.substring(doc.indexOf("```java"), doc.indexOf("## Terms"));
        Set<String> want = new TreeSet<>();
        Matcher m = Pattern.compile("public (int|long) (\\w+)\\(([^)]*)\\);").matcher(listed);
        while (m.find()) {
            want.add(m.group(1) + " " + m.group(2) + " " + m.group(3).replaceAll(" \\w+(,|$)", "$1"));
        }
        Set<String> got = new TreeSet<>();
        for (Method each : CanalCompany.class.getDeclaredMethods()) {
            if (Modifier.isPublic(each.getModifiers())) {
                List<String> types = new ArrayList<>();
                for (Class<?> type : each.getParameterTypes()) {
                    types.add(type.getName());
                }
                got.add(each.getReturnType().getName() + " " + each.getName() + " " + String.join(", ", types));
            } else {
                CHECK.holds("not private: " + each, Modifier.isPrivate(each.getModifiers()));
            }
        }
        CHECK.holds("the face is " + got + ", due is " + want, got.equals(want));
        Set<String> constants = new TreeSet<>();
        for (Field each : CanalCompany.class.getDeclaredFields()) {
            if (Modifier.isPublic(each.getModifiers())) {
                constants.add(each.getName());
            } else {
                CHECK.holds("not private: " + each, Modifier.isPrivate(each.getModifiers()));
            }
        }
        CHECK.holds("constants", constants.equals(Set.of("NONE", "UNKNOWN", "OUTSIDE", "STATE", "FULL")));
        CHECK.due("constructors", CanalCompany.class.getDeclaredConstructors().length, 1);
        CHECK.holds("final", Modifier.isFinal(CanalCompany.class.getModifiers()));
    }

    /** Rules 1, 2, 5 and 11: nested classes, names, static fields, numbers of fields. */
    private static void classes() {
        Set<String> publicNames = new HashSet<>();
        for (Method each : CanalCompany.class.getMethods()) {
            if (each.getDeclaringClass() == CanalCompany.class) {
                publicNames.add(each.getName());
            }
        }
        List<Class<?>> all = new ArrayList<>(List.of(CanalCompany.class.getDeclaredClasses()));
        CHECK.holds("at most twelve classes", all.size() + 1 <= 12);
        for (Class<?> each : all) {
            CHECK.holds("static: " + each, Modifier.isStatic(each.getModifiers()));
            CHECK.holds("not visible: " + each, !Modifier.isPublic(each.getModifiers()));
            for (Method m : each.getDeclaredMethods()) {
                CHECK.holds("a public name: " + m, !publicNames.contains(m.getName()));
            }
        }
        for (Method m : CanalCompany.class.getDeclaredMethods()) {
            CHECK.holds("a public name: " + m,
                    Modifier.isPublic(m.getModifiers()) || !publicNames.contains(m.getName()));
        }
        all.add(CanalCompany.class);
        for (Class<?> each : all) {
            int fields = 0;
            for (Field f : each.getDeclaredFields()) {
                boolean isStatic = Modifier.isStatic(f.getModifiers());
                fields += isStatic ? 0 : 1;
                CHECK.holds("static and not final: " + f, !isStatic || Modifier.isFinal(f.getModifiers()));
            }
            CHECK.holds("twenty fields: " + each, fields <= 20);
        }
    }

    /** Rules 2, 3, 4, 6 and 13: words that must not stand in it. */
    private void words() {
        String[] banned = {"throw", "throws", "try", "catch", "finally", "synchronized", "assert", "native",
            "volatile", "transient", "Object", "Thread", "Random", "Exception", "Error", "hashCode",
            "toString", "protected", "strictfp", "yield", "var"};
        for (String word : banned) {
            CHECK.holds("the word " + word, !Pattern.compile("\\b" + word + "\\b").matcher(code).find());
        }
        CHECK.holds("a lambda or an arrow", !code.contains("->"));
        CHECK.holds("a method reference", !code.contains("::"));
        CHECK.holds("a text", !code.contains("\""));
        CHECK.holds("a package", !Pattern.compile("(?m)^package ").matcher(code).find());
        Matcher imports = Pattern.compile("(?m)^import (.*);").matcher(code);
        while (imports.find()) {
            CHECK.holds("import " + imports.group(1), imports.group(1).equals("java.util.Arrays"));
        }
        Matcher library = Pattern.compile("\\b(Arrays|Math|Integer|Long|System)\\.(\\w+)").matcher(code);
        Set<String> free = Set.of("Arrays.fill", "Arrays.copyOf", "Math.max", "Math.min", "Math.abs",
                "Integer.bitCount");
        while (library.find()) {
            CHECK.holds("library " + library.group(), free.contains(library.group()));
        }
        for (int i = 0; i < code.length(); i++) {
            CHECK.holds("a letter above 126", code.charAt(i) <= 126);
        }
    }

    /** Rule 11: short methods, seven parameters at most. */
    private void methods() {
        Matcher head = HEAD.matcher(code);
        int found = 0;
        while (head.find()) {
            found++;
            String body = bodyFrom(head.end() - 1);
            String name = head.group(1);
            CHECK.holds("long: " + name, body.split("\n").length <= 60);
            CHECK.holds("parameters: " + name, head.group(2).split(",").length <= 7);
            bodies.computeIfAbsent(name, n -> new StringBuilder()).append(body);
        }
        CHECK.holds("methods were found", found > 100);
    }

    private String bodyFrom(int brace) {
        int open = 0;
        for (int i = brace; i < code.length(); i++) {
            open += code.charAt(i) == '{' ? 1 : code.charAt(i) == '}' ? -1 : 0;
            if (open == 0) {
                return code.substring(brace, i + 1);
            }
        }
        return code.substring(brace);
    }

    /** Rules 8 and 11: no recursion, and calls at most eight deep (those of one name taken together). */
    private void depthOfCalls() {
        for (String name : bodies.keySet()) {
            int depth = depthOf(name, new ArrayList<>());
            CHECK.holds("calls below " + name + " go " + depth + " deep", depth <= 8);
        }
    }

    private int depthOf(String name, List<String> above) {
        if (above.contains(name)) {
            CHECK.holds("recursion: " + above + " " + name, false);
            return 0;
        }
        if (depths.containsKey(name)) {
            return depths.get(name);
        }
        above.add(name);
        int deepest = 0;
        Matcher call = Pattern.compile("(\\w+)\\(").matcher(bodies.get(name));
        while (call.find()) {
            if (bodies.containsKey(call.group(1))) {
                deepest = Math.max(deepest, depthOf(call.group(1), above));
            }
        }
        above.remove(above.size() - 1);
        depths.put(name, deepest + 1);
        return deepest + 1;
    }

    /** Rule 12: what one object makes in its life stays small. */
    private static void room() {
        com.sun.management.ThreadMXBean bean =
                (com.sun.management.ThreadMXBean) java.lang.management.ManagementFactory.getThreadMXBean();
        useFully();
        long before = bean.getThreadAllocatedBytes(Thread.currentThread().getId());
        useFully();
        long made = bean.getThreadAllocatedBytes(Thread.currentThread().getId()) - before;
        CHECK.holds(made + " bytes were made", made < 40000);
    }

    private static void useFully() {
        CanalCompany x = new CanalCompany();
        for (int i = 0; i < 16; i++) {
            x.taker(i % 5, i % 8, 10, i % 10);
            x.boat(i % 7, 7, i, 1, i % 4, i % 4);
            x.letters(0x313c6c3f313a54L);
            x.text();
            x.comer(i % 2 == 0, i, 99);
            x.bank(i % 8, 5);
            x.work(5, 5, -1);
        }
        for (int i = 0; i < 20; i++) {
            x.turn(0);
            x.clear();
            for (int c = 0; c < 8; c++) {
                x.comer(c % 2 == 0, c, 99);
            }
        }
        for (int i = 0; i < 30; i++) {
            x.hours(20, 1);
            x.find(0);
            x.plan(20, 0);
            x.toll(0, 5);
            x.bestPence(0);
            x.digest();
        }
    }
}
