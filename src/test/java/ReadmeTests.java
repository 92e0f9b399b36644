import java.lang.reflect.Method;
import java.lang.reflect.Modifier;
import java.nio.file.Files;
import java.nio.file.Path;
import java.util.Arrays;
import java.util.regex.Matcher;
import java.util.regex.Pattern;

/** Makes the calls of README.md's example and compares the answers with its comments. Runs in the project's folder. */
public final class ReadmeTests extends HostTest {
    private static final Pattern BLOCK = Pattern.compile("```java\n(.*?)```", Pattern.DOTALL);
    private static final Pattern MADE = Pattern.compile("TenantHost host = new TenantHost\\((\\d+)\\);.*");
    private static final Pattern CALL = Pattern.compile("host\\.(\\w+)\\(([-\\d, ]*)\\); +// (-?\\d+|true|false): .*");

    public static void main(String[] args) throws Exception {
        String readme = Files.readString(Path.of("README.md"));
        Matcher block = BLOCK.matcher(readme);
        boolean found = block.find();
        due("README.md has an example", found, true);
        if (found) follow(block.group(1).split("\n"));
        tellsEachMethod(readme);
        finish("ReadmeTests");
    }

    private static void follow(String[] lines) throws Exception {
        Matcher made = MADE.matcher(lines[0]);
        due("the example makes a host", made.matches(), true);
        TenantHost host = new TenantHost(Integer.parseInt(made.group(1)));
        for (int i = 1; i < lines.length; i++) {
            Matcher call = CALL.matcher(lines[i]);
            boolean readable = call.matches();
            due("a call with its answer: " + lines[i], readable, true);
            if (readable) due(lines[i], answer(host, call.group(1), call.group(2).split(", ")), call.group(3));
        }
    }

    private static String answer(TenantHost host, String name, String[] words) throws Exception {
        Object[] values = new Object[words.length];
        for (int i = 0; i < words.length; i++) values[i] = Integer.parseInt(words[i]);
        Class<?>[] types = new Class<?>[words.length];
        Arrays.fill(types, int.class);
        return TenantHost.class.getMethod(name, types).invoke(host, values).toString();
    }

    private static void tellsEachMethod(String readme) {
        for (Method method : TenantHost.class.getDeclaredMethods()) {
            if (!Modifier.isPublic(method.getModifiers())) continue;
            boolean told = Pattern.compile("`" + method.getName() + "\\([^`)]*\\)`").matcher(readme).find();
            due("README.md tells of " + method.getName(), told, true);
        }
    }
}
