import java.io.IOException;
import java.lang.reflect.Field;
import java.lang.reflect.Member;
import java.lang.reflect.Method;
import java.lang.reflect.Modifier;
import java.nio.file.Files;
import java.nio.file.Path;
import java.util.ArrayList;
import java.util.Arrays;
import java.util.LinkedHashMap;
import java.util.List;
import java.util.Map;
import java.util.Set;
import java.util.TreeSet;
import java.util.regex.Matcher;
import java.util.regex.Pattern;

/** What of ../shared/LANGUAGE.md can be told from the text and the members of the class. Runs in the project's folder. */
public final class LanguageTests {
    private static final Path SOURCE = Path.of("src/main/java/TenantHost.java");
    private static final String[] FACE = {"audit(int):int", "capability(int,int,int,int):boolean", "code(int,int,int):int",
        "deploy(int):int", "grant(int,int,int):int", "kill(int):boolean", "limits(int,int,int,int):boolean", "place():int",
        "resource(int):int", "revoke(int,int):boolean", "run(int):int", "start(int,int,int):int", "tenant(int,int):int",
        "thread(int,int):int", "withdraw(int,int):boolean"};
    private static final Pattern METHOD = Pattern.compile("(?m)^    (?:public|private)[\\w ]* (\\w+)\\([^)]*\\) \\{\\n(.*?)^    \\}",
        Pattern.DOTALL | Pattern.MULTILINE);
    private static int wrong = 0;

    public static void main(String[] args) throws IOException {
        String text = Files.readString(SOURCE).replaceAll("(?s)/\\*.*?\\*/", "").replaceAll("//[^\n]*", "");
        Map<String, String> bodies = new LinkedHashMap<>();
        Matcher m = METHOD.matcher(text);
        while (m.find()) hold(bodies.put(m.group(1), m.group(2)) == null, 1, "one method of the name " + m.group(1));
        members(bodies.keySet());
        words(text);
        arrays(text);
        calls(bodies);
        System.out.println("LanguageTests: " + wrong + " wrong");
        if (wrong != 0) System.exit(1);
    }

    private static void hold(boolean good, int rule, String what) {
        if (!good) {
            wrong++;
            System.out.println("rule " + rule + " asks for: " + what);
        }
    }

    private static void members(Set<String> found) {
        Class<TenantHost> c = TenantHost.class;
        hold(c.getModifiers() == (Modifier.PUBLIC | Modifier.FINAL), 1, "a public final class");
        hold(c.getDeclaredClasses().length == 0, 1, "no nested class");
        hold(c.getDeclaredConstructors().length == 1, 1, "one constructor");
        Set<String> face = new TreeSet<>();
        Set<String> names = new TreeSet<>();
        for (Method method : c.getDeclaredMethods()) {
            hold(isPublicOrPrivate(method), 1, "no other visible member than " + method);
            hold(names.add(method.getName()), 1, "no second method of the name " + method.getName());
            hold(method.getParameterCount() <= 7, 10, "at most seven parameters of " + method);
            hold(found.contains(method.getName()), 1, "a text of " + method.getName() + " that this test can read");
            List<String> types = new ArrayList<>();
            for (Class<?> type : method.getParameterTypes()) types.add(type.getName());
            if (Modifier.isPublic(method.getModifiers())) {
                face.add(method.getName() + "(" + String.join(",", types) + "):" + method.getReturnType());
            }
        }
        hold(face.equals(new TreeSet<>(Arrays.asList(FACE))), 1, "the methods of the face, not " + face);
        Set<String> constants = new TreeSet<>();
        int fields = 0;
        for (Field field : c.getDeclaredFields()) {
            hold(isPublicOrPrivate(field), 1, "no other visible member than " + field);
            boolean constant = Modifier.isStatic(field.getModifiers());
            Class<?> type = field.getType();
            if (constant) hold(type == int.class && Modifier.isFinal(field.getModifiers()), 5, "constants, not " + field);
            else fields++;
            hold(type.isPrimitive() || type.getComponentType().isPrimitive(), 2, "numbers and arrays of them, not " + field);
            if (Modifier.isPublic(field.getModifiers())) constants.add(field.getName());
        }
        hold(fields <= 40, 10, "at most forty fields, not " + fields);
        hold(constants.equals(Set.of("OK", "FORM", "STACK", "BUSY", "REFUSED")), 1, "the constants of the face");
    }

    private static boolean isPublicOrPrivate(Member member) {
        return (member.getModifiers() & (Modifier.PUBLIC | Modifier.PRIVATE)) != 0;
    }

    private static void words(String text) {
        String[] banned = {"import", "package", "float", "double", "null", "throw", "try", "catch", "synchronized", "assert",
            "instanceof", "interface", "enum", "record", "protected", "super", "String", "Math", "Integer", "System",
            "Object", "Arrays", "Long", "var", "length", "clone", "yield"};
        for (String word : banned) {
            hold(!Pattern.compile("\\b" + word + "\\b").matcher(text).find(), 6, "no " + word);
        }
        for (String sign : new String[] {"->", "::", "@", "\"", "static {", "[][]"}) hold(!text.contains(sign), 6, "no " + sign);
    }

    private static void arrays(String text) {
        Matcher m = Pattern.compile("[^\n]*\\bnew\\b[^\n]*").matcher(text);
        while (m.find()) {
            boolean field = m.group().matches("    private final int\\[\\] \\w+ = new int\\[[A-Z_]+\\];");
            hold(field, 4, "arrays made in a field's initialiser, not " + m.group());
        }
        Matcher local = Pattern.compile("\n        [^\n]*\\[\\][^\n]*").matcher(text);
        while (local.find()) hold(false, 4, "no array handed about: " + local.group());
    }

    private static void calls(Map<String, String> bodies) {
        Map<String, Set<String>> called = new LinkedHashMap<>();
        Pattern call = Pattern.compile("\\b(\\w+)\\(");
        for (String name : bodies.keySet()) {
            String body = bodies.get(name);
            hold(body.split("\n").length <= 60, 10, "at most sixty lines in " + name);
            hold(!body.contains("while"), 8, "loops with a counter in " + name);
            Set<String> all = new TreeSet<>();
            Matcher m = call.matcher(body);
            while (m.find()) {
                if (!bodies.containsKey(m.group(1))) {
                    hold(m.group(1).matches("if|for|switch|return"), 3, "no call of " + m.group(1));
                    continue;
                }
                all.add(m.group(1));
                String inside = arguments(body, m.end());
                Matcher nested = call.matcher(inside);
                while (nested.find()) hold(false, 10, "no call inside the arguments of " + m.group(1) + ": " + inside);
            }
            called.put(name, all);
        }
        for (String name : called.keySet()) depth(name, called, new ArrayList<>());
    }

    private static String arguments(String body, int from) {
        int open = 1;
        int i = from;
        while (open > 0) {
            char c = body.charAt(i++);
            open += c == '(' ? 1 : c == ')' ? -1 : 0;
        }
        return body.substring(from, i - 1);
    }

    private static void depth(String name, Map<String, Set<String>> called, List<String> above) {
        hold(!above.contains(name), 8, "no recursion of " + name);
        List<String> here = new ArrayList<>(above);
        here.add(name);
        hold(here.size() <= 6, 10, "calls at most six deep, not " + here);
        if (here.size() > 6 || above.contains(name)) return;
        for (String next : called.get(name)) depth(next, called, here);
    }
}
