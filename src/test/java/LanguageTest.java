import java.io.IOException;
import java.lang.reflect.Constructor;
import java.lang.reflect.Field;
import java.lang.reflect.Method;
import java.lang.reflect.Modifier;
import java.nio.file.Files;
import java.nio.file.Path;
import java.util.ArrayList;
import java.util.List;
import java.util.Map;
import java.util.Set;
import java.util.TreeMap;
import java.util.TreeSet;
import java.util.regex.Matcher;
import java.util.regex.Pattern;

/** The face is the document's and no more, and the file keeps to those rules of LANGUAGE.md that can be seen in its text. */
public final class LanguageTest {
    private static int wrong;

    private static void say(String what) {
        wrong++;
        System.out.println(what);
    }

    private static String read(Path path) throws IOException {
        return Files.readString(path);
    }

    private static String withoutComments(String source) {
        return source.replaceAll("(?s)/\\*.*?\\*/", "").replaceAll("//[^\n]*", "");
    }

    private static void faceIsTheDocuments(String doc) {
        String face = doc.substring(doc.indexOf("public final class BalladSheets {"), doc.indexOf("## Terms"));
        Set<String> due = new TreeSet<>(), seen = new TreeSet<>();
        Matcher m = Pattern.compile("public (int|long) (\\w+)\\(([^)]*)\\);").matcher(face);
        while (m.find()) due.add(m.group(1) + " " + m.group(2) + "(" + m.group(3).replaceAll(" \\w+(,|$)", "$1").replace(" ", "") + ")");
        for (Method method : BalladSheets.class.getDeclaredMethods()) {
            if (Modifier.isPrivate(method.getModifiers())) continue;
            List<String> types = new ArrayList<>();
            for (Class<?> type : method.getParameterTypes()) types.add(type.getName());
            seen.add(method.getReturnType() + " " + method.getName() + "(" + String.join(",", types) + ")");
            if (!Modifier.isPublic(method.getModifiers())) say("not public: " + method);
        }
        if (due.size() != 53) say("the document's face has " + due.size() + " methods here");
        if (!due.equals(seen)) say("the face is not the document's: due " + due + ", seen " + seen);
        Set<String> constants = new TreeSet<>();
        for (Field field : BalladSheets.class.getDeclaredFields()) {
            if (!Modifier.isPrivate(field.getModifiers())) constants.add(field.getName());
        }
        if (!constants.equals(Set.of("BAD", "FULL", "FINDING", "STATE", "SPENT", "NONE"))) say("constants: " + constants);
        Constructor<?>[] made = BalladSheets.class.getDeclaredConstructors();
        if (made.length != 1 || !Modifier.isPublic(made[0].getModifiers())) say("there is not one public constructor");
        if (!Modifier.isFinal(BalladSheets.class.getModifiers())) say("the class is not final");
    }

    private static void classesAreSmall() {
        Set<String> face = new TreeSet<>();
        for (Method method : BalladSheets.class.getMethods()) face.add(method.getName());
        List<Class<?>> all = new ArrayList<>(List.of(BalladSheets.class.getDeclaredClasses()));
        for (Class<?> inside : all) {
            if (!Modifier.isStatic(inside.getModifiers())) say("not static: " + inside);
            for (Method method : inside.getDeclaredMethods()) if (face.contains(method.getName())) say("a name of the face: " + method);
        }
        all.add(BalladSheets.class);
        if (all.size() > 12) say(all.size() + " classes");
        for (Class<?> one : all) {
            int fields = 0;
            for (Field field : one.getDeclaredFields()) {
                if (!Modifier.isStatic(field.getModifiers())) fields++;
                else if (!Modifier.isFinal(field.getModifiers())) say("static, not final: " + field);
            }
            if (fields > 20) say(one + " has " + fields + " fields");
            for (Method method : one.getDeclaredMethods()) if (method.getParameterCount() > 7) say("parameters: " + method);
        }
        for (Method method : BalladSheets.class.getDeclaredMethods()) {
            if (Modifier.isPrivate(method.getModifiers()) && isPublicName(method.getName())) say("a name of the face: " + method);
        }
    }

    private static boolean isPublicName(String name) {
        for (Method method : BalladSheets.class.getDeclaredMethods()) {
            if (Modifier.isPublic(method.getModifiers()) && method.getName().equals(name)) return true;
        }
        return false;
    }

    private static void wordsAreAllowed(String code) {
        Matcher words = Pattern.compile("\\b(throw|throws|try|catch|synchronized|assert|package|protected|native|volatile|transient|double|float|"
            + "hashCode|toString|Object|Thread|Random|System\\.(?!arraycopy)\\w+|\\w+Exact|Map|HashMap|Set|HashSet|Long\\.\\w*Exact|record|"
            + "yield|var|instanceof)\\b|->|::").matcher(code);
        while (words.find()) say("not allowed: " + words.group());
        Matcher imports = Pattern.compile("import ([^;]*);").matcher(code);
        while (imports.find()) if (!imports.group(1).matches("java\\.util\\.(Arrays|ArrayList|List)")) say("import " + imports.group(1));
        Matcher library = Pattern.compile("\\b(Arrays|Math|Integer|Long)\\.(\\w+)").matcher(code);
        while (library.find()) {
            if (!Set.of("copyOf", "copyOfRange", "fill", "min", "max", "abs", "bitCount", "MAX_VALUE", "MIN_VALUE").contains(library.group(2))) say("library: " + library.group());
        }
        for (int i = 0; i < code.length(); i++) if (code.charAt(i) > 126) say("a sign beyond 126 at " + i);
    }

    private static void methodsAreShort(String source) {
        String[] lines = source.split("\n");
        for (int i = 0; i < lines.length; i++) {
            Matcher head = Pattern.compile("^( +)(?!.*\\bclass\\b)[\\w\\[\\] ]+\\([^)]*\\) \\{$").matcher(lines[i]);
            if (!head.matches() || lines[i].trim().matches("(if|for|while|switch|else) .*")) continue;
            int end = i;
            while (end < lines.length && !lines[end].equals(head.group(1) + "}")) end++;
            if (end - i > 60) say("a method of " + (end - i) + " lines: " + lines[i].trim());
        }
    }

    /** By names alone, so that what calls one method of a name is taken to call all of that name. */
    private static Map<String, Set<String>> callsByName(String code) {
        Map<String, StringBuilder> bodies = new TreeMap<>();
        String[] lines = code.split("\n");
        Pattern head = Pattern.compile("^( +)(?:[\\w\\[\\]]+ )*(\\w+)\\([^()]*\\) \\{$");
        for (int i = 0; i < lines.length; i++) {
            Matcher m = head.matcher(lines[i]);
            if (!m.matches() || m.group(2).matches("if|for|while|switch")) continue;
            StringBuilder body = bodies.computeIfAbsent(m.group(2), name -> new StringBuilder());
            for (int k = i + 1; k < lines.length && !lines[k].equals(m.group(1) + "}"); k++) body.append(lines[k]).append('\n');
        }
        Map<String, Set<String>> calls = new TreeMap<>();
        bodies.forEach((name, body) -> {
            Set<String> called = new TreeSet<>();
            Matcher m = Pattern.compile("(Math\\.|Integer\\.|Arrays\\.|System\\.)?\\b(\\w+)\\(").matcher(body);
            while (m.find()) if (m.group(1) == null && bodies.containsKey(m.group(2))) called.add(m.group(2));
            calls.put(name, called);
        });
        return calls;
    }

    private static int depth(String name, Map<String, Set<String>> calls, List<String> open) {
        if (open.contains(name)) {
            say("calls itself: " + open + " " + name);
            return 0;
        }
        open.add(name);
        int deepest = 0;
        for (String called : calls.get(name)) deepest = Math.max(deepest, depth(called, calls, open));
        open.remove(name);
        return deepest + 1;
    }

    private static void callsAreShallow(String code) {
        Map<String, Set<String>> calls = callsByName(code);
        if (calls.size() < 100) say("only " + calls.size() + " names of methods were found");
        for (String name : calls.keySet()) {
            int depth = depth(name, calls, new ArrayList<>());
            if (depth > 8) say(name + " goes " + depth + " calls deep");
        }
    }

    private static void groupsAreTheDocuments(String doc, String source) {
        Matcher groups = Pattern.compile("Ahead of the calls ([^\n]*) the interface says: (---- [^\n]*)\\.").matcher(doc);
        int at = 0, seen = 0;
        for (; groups.find(); seen++) {
            at = source.indexOf("// " + groups.group(2) + "\n", at);
            for (String call : groups.group(1).replaceAll("[`,]", "").split(" ")) {
                int next = Math.max(source.indexOf("public int " + call + "(", at), source.indexOf("public long " + call + "(", at));
                if (at < 0 || next < 0) say("not where the interface says: " + call);
                else at = next;
            }
        }
        if (seen != 6) say("the document has " + seen + " groups of calls here");
    }

    public static void main(String[] args) throws IOException {
        Path root = Path.of(args.length > 0 ? args[0] : ".");
        String source = read(root.resolve("src/main/java/BalladSheets.java"));
        String doc = read(root.resolve("../shared/DOC.md"));
        faceIsTheDocuments(doc);
        groupsAreTheDocuments(doc, source);
        classesAreSmall();
        wordsAreAllowed(withoutComments(source));
        methodsAreShort(source);
        callsAreShallow(withoutComments(source));
        System.out.println(wrong == 0 ? "the file keeps to the rules looked at" : wrong + " rules are broken");
        if (wrong != 0) System.exit(1);
    }
}
