import java.util.Arrays;
import java.util.List;

/** What the tests of the project share: a small assembler, the answers of a host as texts, and the count of faults. */
abstract class HostTest {
    protected static final List<String> OPS = Arrays.asList("FUNC", "PUSH", "DUP", "DROP", "SWAP", "ADD",
        "SUB", "MUL", "LESS", "SAME", "LOAD", "STORE", "JUMP", "ZERO", "CALL", "PRIV", "SEND", "SPAWN",
        "GUARD", "ALLOC", "FREE", "RETURN", "THROW", "YIELD");
    protected static final String LOOP = "FUNC 1; JUMP 1";
    protected static final String ECHO = "FUNC 1; LOAD 0; RETURN";
    protected static final int MIN = Integer.MIN_VALUE, MAX = Integer.MAX_VALUE;

    private static int wrong = 0;
    private static int checks = 0;
    private static String said = "";

    protected static void due(String what, Object got, Object want) {
        checks++;
        if (!got.equals(want)) {
            wrong++;
            System.out.println(said + what + ": answered " + got + ", due is " + want);
        }
    }

    /** Runs the test of one sentence of the document; what is wrong is told with the sentence. */
    protected static void sentence(String words, Runnable test) {
        int before = checks;
        said = "\"" + words + "\": ";
        test.run();
        due("checks were made", checks > before, true);
        said = "";
    }

    /** Tells how it went, and ends with exit code 1 if something was wrong. */
    protected static void finish(String name) {
        System.out.println(name + ": " + checks + " checks, " + wrong + " wrong");
        if (wrong != 0) System.exit(1);
    }

    /** Adds the instructions of a text such as "FUNC 1; LOAD 0; RETURN" to the pending bundle. */
    protected static void add(TenantHost x, String text) {
        for (String line : text.split(";")) {
            String[] word = line.trim().split(" ");
            int a = word.length > 1 ? Integer.parseInt(word[1]) : 0;
            int b = word.length > 2 ? Integer.parseInt(word[2]) : 0;
            x.code(OPS.indexOf(word[0]), a, b);
        }
    }

    protected static int deploy(TenantHost x, int tenant, String text) {
        add(x, text);
        return x.deploy(tenant);
    }

    /** A new host whose tenants 0, 1, .. have these bundles. */
    protected static TenantHost host(int quantum, String... bundles) {
        TenantHost x = new TenantHost(quantum);
        for (int t = 0; t < bundles.length; t++) {
            due("deploy " + bundles[t], deploy(x, t, bundles[t]), TenantHost.OK);
        }
        return x;
    }

    protected static String tenant(TenantHost x, int t) {
        StringBuilder all = new StringBuilder();
        for (int what = 0; what < 7; what++) all.append(what == 0 ? "" : " ").append(x.tenant(t, what));
        return all.toString();
    }

    protected static String thread(TenantHost x, int k) {
        StringBuilder all = new StringBuilder();
        for (int what = 0; what < 5; what++) all.append(what == 0 ? "" : " ").append(x.thread(k, what));
        return all.toString();
    }

    protected static int turn(TenantHost x) {
        int turn = -1;
        for (int k = 0; k < 6; k++) if (x.thread(k, 4) == 1) turn = k;
        return turn;
    }

    /** The end of a function of a tenant, begun with an argument: its code and its result. */
    protected static String ends(TenantHost x, int tenant, int function, int argument) {
        int k = x.start(tenant, function, argument);
        x.run(200);
        return x.thread(k, 1) + " " + x.thread(k, 2);
    }

    protected static String ends(TenantHost x, int argument) {
        return ends(x, 0, 0, argument);
    }

    protected static String endsAlone(String text, int argument) {
        return ends(host(16, text), argument);
    }

    /** A FUNC and behind it n values. */
    protected static String pushes(int n) {
        StringBuilder all = new StringBuilder("FUNC 1");
        for (int i = 0; i < n; i++) all.append("; PUSH 1");
        return all.toString();
    }

    protected static String bundle(int length, String first, String filler, String last) {
        StringBuilder all = new StringBuilder(first);
        for (int i = 2; i < length; i++) all.append("; ").append(filler);
        return all.append("; ").append(last).toString();
    }

    /** What deploy and place answer for a bundle of a tenant that has none. */
    protected static String judged(String text) {
        TenantHost x = new TenantHost(4);
        int answer = deploy(x, 2, text);
        return answer + " at " + x.place();
    }

    /** Every answer that a host gives without a change of it, in 151 calls. */
    protected static String state(TenantHost x) {
        StringBuilder all = new StringBuilder();
        for (int t = 0; t < 4; t++) all.append(tenant(x, t)).append(" | ");
        for (int k = 0; k < 6; k++) all.append(thread(x, k)).append(" | ");
        for (int path = 0; path < 84; path++) all.append(x.resource(path)).append(' ');
        for (int k = 0; k < 8; k++) all.append(x.audit(k)).append(' ');
        return all.append(x.place()).toString();
    }
}
