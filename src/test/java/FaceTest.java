import java.io.IOException;
import java.lang.reflect.Constructor;
import java.lang.reflect.Field;
import java.lang.reflect.Method;
import java.lang.reflect.Modifier;
import java.nio.file.Files;
import java.nio.file.Path;
import java.util.ArrayList;
import java.util.List;
import java.util.Map;
import java.util.Set;
import java.util.TreeMap;
import java.util.TreeSet;
import java.util.regex.Matcher;
import java.util.regex.Pattern;

/** The public face as the document has it, and what can be seen of LANGUAGE.md in the source. */
public final class FaceTest {
    private static final Due due = new Due("FaceTest");
    private static final Path SOURCE = Path.of("src/main/java/MiddleOne.java");
    private static final String[] METHODS = {
        "int person(int,int)", "int people(int,int,int)", "int mend(int,int,int)", "int of(int,int)", "int feed(int)", "int law()",
        "int tall(int,int)", "int enters(int,int)", "int stroke(int,int)", "int day(int,int)", "long mean(int,int,int)",
        "int sent(int,int,int)", "int brought(int,int,int)", "int heels(int,int,int)", "int later(int)", "int allWear(int)",
        "int gates(int,int)", "int where(int)", "int bestSet(int,int)", "int atLast()", "int rule(int)", "int judge(int)",
        "int with(int,int)", "int heeled(int)", "int drawn(int,int,int)", "int strike()", "int take(int)", "int dawn()",
        "int led(int)", "int image()", "int back()", "int undo()", "int redo()", "int body(int)", "int act(int,int,int)",
        "int trace(int)", "int keep(int,int)", "int row(int,int,int)", "int put(int,int,long)", "long element(int,int)",
        "int shift(int,int,int,int,int)", "int taken(int,int)", "int count(int)"};

    private static void face() {
        due.holds("the class is public and final", Modifier.isPublic(MiddleOne.class.getModifiers()) && Modifier.isFinal(MiddleOne.class.getModifiers()));
        Set<String> want = new TreeSet<>(List.of(METHODS)), got = new TreeSet<>(), hidden = new TreeSet<>(), open = new TreeSet<>();
        for (Method m : MiddleOne.class.getDeclaredMethods()) {
            StringBuilder b = new StringBuilder();
            for (Class<?> p : m.getParameterTypes()) b.append(b.length() == 0 ? "" : ",").append(p);
            String told = m.getReturnType() + " " + m.getName() + "(" + b + ")";
            if (Modifier.isPublic(m.getModifiers())) {
                got.add(told);
                open.add(m.getName());
            } else {
                due.holds(told + " is private", Modifier.isPrivate(m.getModifiers()));
                hidden.add(m.getName());
            }
        }
        due.holds("the public methods are those of the document: " + got, got.equals(want));
        for (Class<?> c : MiddleOne.class.getDeclaredClasses()) {
            due.holds(c + " is static", Modifier.isStatic(c.getModifiers()));
            due.holds(c + " is not public", !Modifier.isPublic(c.getModifiers()) && !Modifier.isProtected(c.getModifiers()));
            for (Method m : c.getDeclaredMethods()) hidden.add(m.getName());
            due.holds(c + " has some twenty fields at most", fieldsOf(c) <= 20);
        }
        for (String name : hidden) due.holds(name + " is no public method's name", !open.contains(name));
        due.is("classes", MiddleOne.class.getDeclaredClasses().length + 1, Math.min(12, MiddleOne.class.getDeclaredClasses().length + 1));
        Constructor<?>[] made = MiddleOne.class.getDeclaredConstructors();
        due.holds("one public constructor without arguments", made.length == 1 && made[0].getParameterCount() == 0 && Modifier.isPublic(made[0].getModifiers()));
        Set<String> constants = new TreeSet<>();
        for (Field f : MiddleOne.class.getDeclaredFields()) {
            if (Modifier.isPrivate(f.getModifiers())) continue;
            due.holds(f + " is a constant", Modifier.isPublic(f.getModifiers()) && Modifier.isStatic(f.getModifiers()) && Modifier.isFinal(f.getModifiers()));
            constants.add(f.getType() + " " + f.getName());
        }
        due.holds("the constants are those of the document", constants.equals(Set.of("int BAD", "int NOT", "int FULL", "int STATE", "int VOID")));
    }

    private static int fieldsOf(Class<?> c) {
        int fields = 0;
        for (Field f : c.getDeclaredFields()) if (!Modifier.isStatic(f.getModifiers())) fields++;
        return fields;
    }

    /** The source without its comments, texts and signs, with its lines kept. */
    private static String bare(String source) {
        Matcher m = Pattern.compile("//[^\\n]*|(?s:/\\*.*?\\*/)|\"(?:\\\\.|[^\"\\\\])*\"|'(?:\\\\.|[^'\\\\])'").matcher(source);
        return m.replaceAll(r -> r.group().replaceAll("[^\\n]", " "));
    }

    private static void words(String code) {
        String[] ruledOut = {
            "throw", "throws", "try", "catch", "synchronized", "assert", "package", "protected", "hashCode", "toString", "Exact", "var",
            "Object", "Thread", "native", "transient", "volatile", "random", "nanoTime", "currentTimeMillis", "getenv", "Exception"};
        for (String word : ruledOut) due.holds(word + " does not stand in the source", !Pattern.compile("\\b" + word + "\\b").matcher(code).find());
        due.holds("no lambda", !code.contains("->"));
        due.holds("no method reference", !code.contains("::"));
        due.holds("no name that ends in Exact", !code.contains("Exact("));
        Matcher imports = Pattern.compile("import [^;]*;").matcher(code);
        while (imports.find()) due.holds(imports.group() + " is allowed", imports.group().equals("import java.util.Arrays;"));
        Matcher calls = Pattern.compile("\\b(Math|Integer|Long|Arrays|System)\\.(\\w+)").matcher(code);
        Set<String> allowed = Set.of("Math.min", "Math.max", "Integer.bitCount", "Long.MIN_VALUE", "Arrays.fill", "System.arraycopy");
        while (calls.find()) due.holds(calls.group() + " is allowed", allowed.contains(calls.group()));
        Matcher statics = Pattern.compile("static (?!final|boolean \\w+\\(|int \\w+\\(|long \\w+\\(|void \\w+\\()[^;{]*").matcher(code);
        while (statics.find()) due.holds(statics.group() + " is final", false);
    }

    /** Methods by their indentation: a head that ends in a brace, till the brace that stands where the head began. */
    private static void sizes(String code) {
        List<String> lines = new ArrayList<>(List.of(code.split("\n")));
        Pattern head = Pattern.compile("^( +)(?:public |private |static |final )*[\\w\\[\\]]+(?: \\w+)?\\(([^)]*)\\) \\{$");
        int methods = 0;
        for (int i = 0; i < lines.size(); i++) {
            Matcher m = head.matcher(lines.get(i));
            if (!m.find() || m.group(1).length() > 8) continue;
            methods++;
            int end = i;
            while (!lines.get(end).equals(m.group(1) + "}")) end++;
            due.holds("line " + (i + 1) + " begins a method of some sixty lines at most", end - i + 1 <= 60);
            int parameters = m.group(2).isBlank() ? 0 : m.group(2).split(",").length;
            due.holds("line " + (i + 1) + " takes at most seven parameters", parameters <= 7);
        }
        due.holds("all methods were found: " + methods, methods > 100);
    }

    /** Who calls whom, by names, since no two methods that matter share one: calls that are no recursion go at most eight deep. */
    private static void depth(String code) {
        Map<String, Set<String>> calls = new TreeMap<>();
        Matcher heads = Pattern.compile("(?m)^( {4}| {8})(?:public |private |static |final )*(?:[\\w\\[\\]]+ )(\\w+)\\([^)]*\\) \\{$").matcher(code);
        Map<String, String> bodies = new TreeMap<>();
        while (heads.find()) {
            int end = code.indexOf("\n" + heads.group(1) + "}\n", heads.end());
            bodies.merge(heads.group(2), code.substring(heads.end(), end), String::concat);
        }
        for (String name : bodies.keySet()) {
            Set<String> called = new TreeSet<>();
            Matcher m = Pattern.compile("\\b(\\w+)\\(").matcher(bodies.get(name));
            while (m.find()) if (bodies.containsKey(m.group(1)) && !m.group(1).equals(name)) called.add(m.group(1));
            calls.put(name, called);
        }
        due.holds("calls were found", calls.get("allWear").contains("allChoose"));
        for (String name : calls.keySet()) {
            due.holds("calls from " + name + " on go at most eight deep: " + deepest(calls, name, new ArrayList<>()),
                deepest(calls, name, new ArrayList<>()).size() <= 8);
        }
    }

    private static List<String> deepest(Map<String, Set<String>> calls, String name, List<String> above) {
        List<String> here = new ArrayList<>(above), best;
        here.add(name);
        best = here;
        for (String called : calls.get(name)) {
            if (here.contains(called)) continue;
            List<String> deeper = deepest(calls, called, here);
            if (deeper.size() > best.size()) best = deeper;
        }
        return best;
    }

    /** All rows are made with the object: whatever runs in one room, a call makes nothing. */
    private static void made(String code) {
        int made = 0;
        for (String line : code.split("\n")) {
            if (!line.contains("new ")) continue;
            made++;
            boolean withTheObject = line.matches(" +private final .* = new .*;") || line.matches(" {8}(Picker )?\\w+ = new [A-Z]\\w+\\([a-z, ]*\\);");
            due.holds("it is made with the object: " + line.strip(), withTheObject);
        }
        due.holds("what is made was found: " + made, made > 20);
    }

    public static void main(String[] args) throws IOException {
        face();
        String source = Files.readString(SOURCE);
        due.holds("the source has signs 10 and 32 to 126 alone", source.matches("[\\n\\x20-\\x7E]*"));
        String code = bare(source);
        words(code);
        sizes(code);
        depth(code);
        made(code);
        due.ends();
    }
}
