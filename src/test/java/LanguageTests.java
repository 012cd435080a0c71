import java.io.IOException;
import java.lang.reflect.Constructor;
import java.lang.reflect.Field;
import java.lang.reflect.Method;
import java.lang.reflect.Modifier;
import java.nio.file.Files;
import java.nio.file.Path;
import java.util.ArrayList;
import java.util.HashSet;
import java.util.List;
import java.util.Map;
import java.util.Set;
import java.util.TreeMap;
import java.util.TreeSet;
import java.util.regex.Matcher;
import java.util.regex.Pattern;

/** The rules of LANGUAGE.md that a look at the source and at the compiled class can tell. */
public final class LanguageTests {
    public static void main(String[] args) throws IOException {
        face(Files.readString(Path.of("../shared/DOC.md")));
        insides();
        source(Files.readString(Path.of("src/main/java/KnivesGround.java")));
        Due.end();
    }

    private static void face(String doc) {
        Set<String> due = new TreeSet<>();
        Matcher line = Pattern.compile("(?m)^    public (int \\w+\\(.*\\));$").matcher(doc);
        while (line.find()) {
            due.add(line.group(1).replaceAll(" \\w+(?=[,)])", "").replace(", ", ","));
        }
        Set<String> got = new TreeSet<>();
        for (Method method : KnivesGround.class.getDeclaredMethods()) {
            if (!Modifier.isPrivate(method.getModifiers())) {
                Due.is("rule 1 public " + method, Modifier.isPublic(method.getModifiers()) ? 1 : 0, 1);
                StringBuilder b = new StringBuilder("int ").append(method.getName()).append('(');
                for (Class<?> type : method.getParameterTypes()) {
                    b.append(b.charAt(b.length() - 1) == '(' ? "" : ",").append(type.getName());
                }
                got.add(b.append(')').toString());
            }
        }
        System.out.println(due.size() + " methods of the face");
        Due.is("rule 1 the face " + got, got.equals(due) ? 1 : 0, 1);
        Due.is("rule 1 as many as promises, less the constructor", due.size(), 41);
        for (Field field : KnivesGround.class.getDeclaredFields()) {
            Due.is("rule 1 private " + field, Modifier.isPrivate(field.getModifiers()) ? 1 : 0, 1);
        }
        Constructor<?>[] made = KnivesGround.class.getDeclaredConstructors();
        Due.is("rule 1 one constructor", made.length, 1);
        Due.is("rule 1 without parameters", made[0].getParameterCount(), 0);
    }

    private static void insides() {
        Set<String> names = new HashSet<>();
        for (Method method : KnivesGround.class.getDeclaredMethods()) {
            if (Modifier.isPublic(method.getModifiers())) {
                names.add(method.getName());
            }
        }
        Class<?>[] inside = KnivesGround.class.getDeclaredClasses();
        Due.is("rule 11 twelve classes at most", inside.length < 12 ? 1 : 0, 1);
        check(KnivesGround.class, names);
        for (Class<?> c : inside) {
            Due.is("rule 1 private and static " + c, c.getModifiers() & (Modifier.PRIVATE | Modifier.STATIC),
                Modifier.PRIVATE | Modifier.STATIC);
            check(c, names);
        }
    }

    private static void check(Class<?> c, Set<String> names) {
        int fields = 0;
        for (Field field : c.getDeclaredFields()) {
            boolean isStatic = Modifier.isStatic(field.getModifiers());
            fields += isStatic ? 0 : 1;
            Due.is("rule 5 " + field, isStatic && !Modifier.isFinal(field.getModifiers()) ? 1 : 0, 0);
        }
        Due.is("rule 11 twenty fields at most " + c, fields <= 20 ? 1 : 0, 1);
        for (Method method : c.getDeclaredMethods()) {
            boolean isPrivate = !Modifier.isPublic(method.getModifiers());
            Due.is("rule 1 the name of " + method, isPrivate && names.contains(method.getName()) ? 1 : 0, 0);
            Due.is("rule 11 seven parameters at most " + method, method.getParameterCount() <= 7 ? 1 : 0, 1);
        }
    }

    private static void source(String source) {
        for (int i = 0; i < source.length(); i++) {
            if (source.charAt(i) > 126) {
                Due.is("rule 3 the sign at " + i, source.charAt(i), ' ');
            }
        }
        String code = source.replaceAll("(?s)/\\*.*?\\*/", "").replaceAll("//[^\n]*", "")
            .replaceAll("'(\\\\.|[^'\\\\])'", "' '");
        String[] words = {"throw", "throws", "try", "catch", "finally", "synchronized", "assert", "import", "package",
            "Object", "hashCode", "toString", "equals", "volatile", "transient", "native", "var", "yield"};
        for (String word : words) {
            Due.is("rules 4, 6 " + word, Pattern.compile("\\b" + word + "\\b").matcher(code).find() ? 1 : 0, 0);
        }
        Due.is("rule 2 a lambda or a method reference", code.contains("->") || code.contains("::") ? 1 : 0, 0);
        Due.is("rule 9 a loop without a counter", Pattern.compile("\\bwhile\\b").matcher(code).find() ? 1 : 0, 0);
        Matcher library = Pattern.compile("\\b(Math|Integer|Long|System|Arrays)\\.(\\w+)").matcher(code);
        while (library.find()) {
            boolean known = Set.of("max", "min", "bitCount", "arraycopy").contains(library.group(2));
            Due.is("rule 4 " + library.group(), known ? 1 : 0, 1);
        }
        methodsAreShort(code);
        nothingIsMadeByCalls(code);
        callsAreNotDeep(code);
    }

    private static void methodsAreShort(String code) {
        String[] lines = code.split("\n", -1);
        int begin = -1;
        String indent = "";
        for (int i = 0; i < lines.length; i++) {
            Matcher head = Pattern.compile("( +)(public|private).*\\).*").matcher(lines[i]);
            if (begin < 0 && head.matches() && !lines[i].trim().endsWith(";")) {
                begin = i;
                indent = head.group(1);
            } else if (begin >= 0 && lines[i].equals(indent + "}")) {
                Due.is("rule 11 sixty lines at most " + lines[begin].trim(), i - begin < 60 ? 1 : 0, 1);
                begin = -1;
            }
        }
    }

    /** No way through the calls passes a name twice: recursion may go deeper than eight. */
    private static void callsAreNotDeep(String code) {
        Map<String, Set<String>> calls = new TreeMap<>();
        Matcher head = Pattern.compile("(?m)^ +(?:public|private) (?:static )?\\w+ (\\w+)\\([^;]*?\\{$").matcher(code);
        List<Integer> begins = new ArrayList<>();
        while (head.find()) {
            calls.putIfAbsent(head.group(1), new TreeSet<>());
            begins.add(head.start(1));
        }
        begins.add(code.length());
        for (int i = 0; i + 1 < begins.size(); i++) {
            String body = code.substring(begins.get(i), begins.get(i + 1));
            String name = body.substring(0, body.indexOf('('));
            Matcher call = Pattern.compile("\\b(\\w+)\\(").matcher(body.substring(body.indexOf('{')));
            while (call.find()) {
                if (calls.containsKey(call.group(1))) {
                    calls.get(name).add(call.group(1));
                }
            }
        }
        Due.is("rule 11 methods were found", calls.size() > 41 ? 1 : 0, 1);
        for (String name : calls.keySet()) {
            int depth = depth(name, calls, new ArrayList<>());
            Due.is("rule 11 eight calls deep at most, " + name + " " + depth, depth <= 8 ? 1 : 0, 1);
        }
    }

    private static int depth(String name, Map<String, Set<String>> calls, List<String> open) {
        if (open.contains(name)) {
            return 0;
        }
        open.add(name);
        int deepest = 0;
        for (String called : calls.get(name)) {
            deepest = Math.max(deepest, depth(called, calls, open));
        }
        open.remove(open.size() - 1);
        return deepest + 1;
    }

    /** One room holds all calls of a run, so only fields and constructors make objects. */
    private static void nothingIsMadeByCalls(String code) {
        Matcher made = Pattern.compile("(?m)^.*\\bnew\\b.*$").matcher(code);
        while (made.find()) {
            String line = made.group();
            boolean isField = line.matches(" +private final .* = new .*;");
            boolean isRow = line.matches(" +(sheets|ones)\\[i\\] = new (Sheet|One)\\(\\);");
            Due.is("rule 12 made by a call: " + line.trim(), isField || isRow ? 1 : 0, 1);
        }
    }
}
