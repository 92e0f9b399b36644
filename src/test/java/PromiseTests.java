/** For each promise of the document, what it says of ordinary inputs, of the edges and of wrong inputs. */
public final class PromiseTests extends HostTest {
    public static void main(String[] args) {
        promise1NewObject();
        promise2Grant();
        promise2Patterns();
        promise3Withdraw();
        promise4Code();
        promise5Deploy();
        promise6PlaceOfForm();
        promise6PlaceOfStack();
        promise7Limits();
        promise8Capability();
        promise9Revoke();
        promise10Start();
        promise11Run();
        promise11Turns();
        promise11Instructions();
        promise11Exceptions();
        promise11Spawn();
        promise11Units();
        promise11Domains();
        promise12Kill();
        promise12Polls();
        promise13Tenant();
        promise14Thread();
        promise15Resource();
        promise16Audit();
        promise17Order();
        finish("PromiseTests");
    }

    private static void promise1NewObject() {
        TenantHost x = new TenantHost(4);
        for (int t = 0; t < 4; t++) {
            due("1 new tenant", tenant(x, t), "0 0 0 0 0 0 0");
            for (int s = 0; s < 4; s++) due("1 no capability", x.revoke(t, s), false);
        }
        for (int k = 0; k < 6; k++) due("1 no thread", thread(x, k), "-1 -1 -1 -1 -1");
        for (int path = 0; path < 84; path++) due("1 no resource", x.resource(path), 0);
        for (int k = 0; k < 8; k++) due("1 no note", x.audit(k), -1);
        due("1 place", x.place(), -1);
        due("1 nothing to run", x.run(10), 0);
        due("1 pending is empty", x.code(0, 1, 0), 1);
        int[][] quanta = {{MIN, 1}, {0, 1}, {1, 1}, {2, 2}, {16, 16}, {17, 16}, {MAX, 16}};
        for (int[] q : quanta) {
            x = host(q[0], "FUNC 1; PUSH 1; DROP; JUMP 1");
            x.start(0, 0, 0);
            x.start(0, 0, 0);
            x.run(q[1] - 1);
            due("1 quantum " + q[0] + " not over", turn(x), 0);
            x.run(1);
            due("1 quantum " + q[0] + " over", turn(x), 1);
        }
        x = host(3, LOOP);
        for (int k = 0; k < 3; k++) due("1 three threads", x.start(0, 0, 0), k);
        due("1 no fourth thread", x.start(0, 0, 0), -1);
        for (int i = 0; i < 5; i++) due("1 1000 ticks", x.run(200), 200);
        due("1 no tick more", x.run(200), 3);
        due("1 ticks", x.tenant(0, 0), 1000);
        due("1 QUOTA", thread(x, 0), "0 2 0 0 0");
        due("1 100 units", endsAlone("FUNC 1; LOAD 0; ALLOC; RETURN", 100), "0 1");
        due("1 no unit more", endsAlone("FUNC 1; LOAD 0; ALLOC; RETURN", 101), "0 0");
    }

    private static void promise2Grant() {
        TenantHost x = new TenantHost(4);
        due("2 tenant -1", x.grant(-1, 1, 509), -1);
        due("2 tenant 4", x.grant(4, 1, 509), -1);
        due("2 tenant least", x.grant(MIN, 1, 509), -1);
        due("2 no action", x.grant(0, 0, 509), -1);
        due("2 actions 16", x.grant(0, 16, 509), -1);
        due("2 actions -1", x.grant(0, -1, 509), -1);
        due("2 nothing changed", x.tenant(0, 6), 0);
        for (int k = 0; k < 6; k++) due("2 numbers", x.grant(3, 15, 509), k);
        due("2 a seventh", x.grant(3, 15, 509), -1);
        due("2 six", x.tenant(3, 6), 6);
        due("2 numbers per tenant", x.grant(2, 1, 0), 0);
        int good = 0;
        for (int pattern = -600; pattern < 1200; pattern++) {
            TenantHost y = new TenantHost(1);
            int answer = y.grant(0, 1, pattern);
            due("2 pattern " + pattern, answer, isPattern(pattern) ? 0 : -1);
            due("2 count " + pattern, y.tenant(0, 6), answer + 1);
            if (answer == 0) good++;
        }
        // with one segment 5 + "-", with two 5 (5 + "-"), with three 25 (5 + "-")
        due("2 so many patterns", good, 6 + 5 * 6 + 25 * 6);
        due("2 pattern above", x.grant(0, 1, MAX), -1);
        due("2 pattern below", x.grant(0, 1, MIN), -1);
    }

    private static boolean isPattern(int pattern) {
        if (pattern < 0 || pattern > 511) return false;
        String digits = "" + pattern % 8 + pattern / 8 % 8 + pattern / 64;
        return digits.matches("[0-4]{0,2}[0-5]7*|[0-4]{0,2}57*") && digits.length() == 3;
    }

    private static int[] segments(int path) {
        if (path < 4) return new int[] {path};
        if (path < 20) return new int[] {(path - 4) / 4, (path - 4) % 4};
        return new int[] {(path - 20) / 16, (path - 20) / 4 % 4, (path - 20) % 4};
    }

    private static String spelled(int path) {
        StringBuilder all = new StringBuilder();
        for (int s : segments(path)) all.append(s);
        return all.toString();
    }

    /** Which paths a grant stands for, told by regular expressions over the segments. */
    private static void promise2Patterns() {
        int[] patterns = {504, 508, 509, 448, 456 + 1, 484, 480, 488 + 2, 492, 8 * 5 + 448, 8 * 5 + 448 + 4,
            64 * 5, 64 * 5 + 8 * 4 + 4, 64 * 4 + 8 * 4 + 4, 64 * 3 + 8 * 2 + 1, 64 * 4 + 8 * 4 + 3, 64 * 2 + 8 * 4};
        for (int pattern : patterns) {
            String digits = "" + pattern % 8 + pattern / 8 % 8 + pattern / 64;
            String expression = digits.replace("7", "").replace("4", ".").replace("5", ".+");
            for (int path = 0; path < 84; path++) {
                TenantHost x = host(4, "FUNC 1; GUARD 0 " + path + "; RETURN");
                due("2 grant", x.grant(0, 1, pattern), 0);
                boolean allowed = spelled(path).matches(expression);
                due("2 pattern " + digits + " path " + spelled(path), ends(x, 0), allowed ? "0 0" : "1 0");
            }
        }
        for (int actions = 1; actions < 16; actions++) {
            for (int action = 0; action < 4; action++) {
                String value = action == 1 ? "PUSH 0; " : "";
                String rest = action == 1 ? "; PUSH 0; RETURN" : "; RETURN";
                TenantHost x = host(4, "FUNC 1; " + value + "GUARD " + action + " 0" + rest);
                x.grant(0, actions, 504);
                boolean allowed = (actions >> action & 1) == 1;
                due("2 actions " + actions + " action " + action, ends(x, 0), allowed ? "0 0" : "1 0");
            }
        }
        TenantHost x = host(4, "FUNC 1; GUARD 0 3; RETURN");
        for (int k = 0; k < 5; k++) x.grant(0, 15, 504);
        due("2 no grant implies it", ends(x, 0), "1 0");
        x.grant(0, 1, 507);
        due("2 the last grant implies it", ends(x, 0), "0 0");
        x = host(4, "FUNC 1; GUARD 0 3; RETURN");
        x.grant(0, 2, 507);
        x.grant(0, 1, 504);
        due("2 one grant must have both", ends(x, 0), "1 0");
    }

    private static void promise3Withdraw() {
        TenantHost x = host(4, "FUNC 1; GUARD 0 2; RETURN");
        x.grant(0, 1, 504);
        x.grant(0, 1, 505);
        x.grant(0, 1, 506);
        due("3 below", x.withdraw(0, -1), false);
        due("3 above", x.withdraw(0, 3), false);
        due("3 tenant -1", x.withdraw(-1, 0), false);
        due("3 tenant 4", x.withdraw(4, 0), false);
        due("3 other tenant", x.withdraw(1, 0), false);
        due("3 extremes", x.withdraw(MAX, MIN), false);
        due("3 nothing changed", x.tenant(0, 6), 3);
        due("3 before", ends(x, 0), "0 0");
        due("3 the first", x.withdraw(0, 0), true);
        due("3 two left", x.tenant(0, 6), 2);
        due("3 still there", ends(x, 0), "0 0");
        due("3 none at 2", x.withdraw(0, 2), false);
        due("3 the one that moved up", x.withdraw(0, 1), true);
        due("3 gone", ends(x, 0), "1 0");
        due("3 the last", x.withdraw(0, 0), true);
        due("3 none", x.withdraw(0, 0), false);
        due("3 a new one is number 0", x.grant(0, 1, 506), 0);
        due("3 given again", ends(x, 0), "0 0");
        // whole rows: what moves up are actions and patterns, and other tenants keep theirs
        String reads = "FUNC 1; GUARD 0 0; RETURN; FUNC 1; GUARD 3 1; RETURN";
        x = host(4, reads, reads, reads, reads);
        for (int t = 0; t < 4; t++) {
            for (int k = 0; k < 4; k++) x.grant(t, 2, 504);
            x.grant(t, 1, 504);
            x.grant(t, 8, 505);
        }
        due("3 of a full row", x.withdraw(1, 0), true);
        due("3 of the last row", x.withdraw(3, 0), true);
        for (int t = 0; t < 4; t++) {
            due("3 left of tenant " + t, x.tenant(t, 6), t % 2 == 1 ? 5 : 6);
            for (int f = 0; f < 2; f++) {
                int k = x.start(t, f, 0);
                x.run(9);
                due("3 function " + f + " of tenant " + t, thread(x, k), "0 0 0 0 0");
            }
        }
        due("3 the last but one", x.withdraw(1, 3), true);
        x.start(1, 0, 0);
        x.start(1, 1, 0);
        x.run(20);
        due("3 read is gone", x.thread(0, 1), 1);
        due("3 count has moved up", x.thread(1, 1), 0);
        due("3 the last but one of the last row", x.withdraw(3, 3), true);
        x.start(3, 0, 0);
        x.start(3, 1, 0);
        x.run(20);
        due("3 read is gone there", x.thread(0, 1), 1);
        due("3 count has moved up there", x.thread(1, 1), 0);
    }

    private static void promise4Code() {
        TenantHost x = new TenantHost(4);
        due("4 any numbers are taken", x.code(MIN, MAX, MIN), 1);
        x.deploy(0);
        due("4 the first", x.code(0, 1, 0), 1);
        for (int i = 2; i <= 62; i++) due("4 number", x.code(23, 0, 0), i);
        due("4 63", x.code(1, 77, 0), 63);
        due("4 64", x.code(21, 0, 0), 64);
        due("4 no 65th", x.code(22, 0, 0), -1);
        due("4 none again", x.code(99, 0, 0), -1);
        due("4 nothing changed", x.deploy(0), 0);
        due("4 64 run", ends(x, 0), "0 77");
        due("4 empty again", x.code(0, 1, 0), 1);
    }

    private static void promise5Deploy() {
        TenantHost x = new TenantHost(4);
        add(x, ECHO);
        for (int t : new int[] {-1, 4, MIN, MAX}) due("5 no such tenant", x.deploy(t), -1);
        due("5 pending stays", x.code(23, 0, 0), 4);
        due("5 OK", x.deploy(0), 0);
        due("5 it is the bundle", ends(x, 8), "0 8");
        due("5 empty is FORM", x.deploy(0), 1);
        due("5 kept", ends(x, 9), "0 9");
        due("5 FORM", deploy(x, 0, "FUNC 1; PUSH 5; RETURN; FUNC 0"), 1);
        due("5 kept at FORM", ends(x, 9), "0 9");
        due("5 empty after FORM", x.code(0, 1, 0), 1);
        due("5 STACK", x.deploy(0), 2);
        due("5 kept at STACK", tenant(x, 0), "9 0 0 0 1 1 0");
        due("5 empty after STACK", deploy(x, 1, ECHO), 0);

        x = host(4, "FUNC 1; LOAD 0; SEND 0; DROP; RETURN", LOOP);
        x.capability(0, 0, 1, 0);
        x.grant(0, 15, 509);
        x.limits(0, 900, 90, 2);
        x.start(0, 0, 0);
        due("5 busy in its first frame", deploy(x, 0, ECHO), 3);
        due("5 not busy before the call", deploy(x, 1, LOOP), 0);
        x.run(6);
        due("5 busy below", deploy(x, 0, ECHO), 3);
        due("5 busy on top", deploy(x, 1, ECHO), 3);
        due("5 empty after BUSY", x.code(0, 1, 0), 1);
        due("5 not busy", deploy(x, 2, "RETURN"), 2);
        x.kill(1);
        x.run(200);
        due("5 ended", thread(x, 0), "0 0 0 0 0");
        due("5 killed", tenant(x, 1), "3 0 0 0 2 1 0");
        due("5 FORM leaves it killed", x.deploy(1), 1);
        due("5 still killed", x.tenant(1, 4), 2);
        due("5 over a killed one", deploy(x, 1, "FUNC 1; JUMP 1; FUNC 2; JUMP 3"), 0);
        due("5 not killed, no ticks", tenant(x, 1), "0 0 0 0 1 2 0");

        x = host(4, "FUNC 1; LOAD 0; ALLOC; RETURN");
        x.limits(0, 50, 60, 1);
        x.grant(0, 1, 504);
        x.capability(0, 2, 1, 1);
        ends(x, 33);
        due("5 ticks and units", tenant(x, 0), "4 33 0 0 1 1 1");
        due("5 again", deploy(x, 0, "FUNC 1; LOAD 0; ALLOC; RETURN"), 0);
        due("5 none used, none held, grants stay", tenant(x, 0), "0 0 0 0 1 1 1");
        due("5 limits stay", ends(x, 61), "0 0");
        due("5 capabilities stay", x.revoke(0, 2), true);
        x.start(0, 0, 0);
        due("5 thread limit stays", x.start(0, 0, 0), -1);
    }

    private static void form(String text, int place) {
        TenantHost x = new TenantHost(4);
        due("6 FORM of " + text, deploy(x, 0, text), 1);
        due("6 place of " + text, x.place(), place);
    }

    private static void formed(String text) {
        TenantHost x = new TenantHost(4);
        due("6 no FORM of " + text, deploy(x, 0, text) != 1 && x.place() != 0, true);
    }

    private static void promise6PlaceOfForm() {
        form("PUSH 1; RETURN", 0);
        form("WHAT; RETURN", 0);
        form("FUNC 0; PUSH 1; RETURN", 0);
        form("FUNC 5; PUSH 1; RETURN", 0);
        form("FUNC -1; PUSH 1; RETURN", 0);
        form("FUNC 1; PUSH 1; WHAT; RETURN", 2);
        form("FUNC 1; WHAT; FUNC 9; WHAT", 1);
        form("FUNC 1; PUSH 1; RETURN; FUNC 9", 3);
        for (String op : new String[] {"LOAD", "STORE"}) {
            form("FUNC 2; " + op + " 2; PUSH 1; RETURN", 1);
            form("FUNC 4; " + op + " 4; PUSH 1; RETURN", 1);
            form("FUNC 4; " + op + " -1; PUSH 1; RETURN", 1);
            form("FUNC 1; " + op + " 0; PUSH 1; RETURN; FUNC 3; " + op + " 2; FUNC 1; " + op + " 1", 7);
            formed("FUNC 4; PUSH 1; " + op + " 3; PUSH 1; RETURN");
        }
        for (String op : new String[] {"JUMP", "ZERO"}) {
            form("FUNC 1; PUSH 0; " + op + " 0; PUSH 1; RETURN", 2);
            form("FUNC 1; PUSH 0; " + op + " 5; PUSH 1; RETURN", 2);
            form("FUNC 1; PUSH 0; " + op + " -1; PUSH 1; RETURN", 2);
            form("FUNC 1; PUSH 0; " + op + " " + MAX + "; PUSH 1; RETURN", 2);
            form("FUNC 1; PUSH 0; " + op + " 5; PUSH 1; RETURN; FUNC 1; PUSH 1; RETURN", 2);
            form("FUNC 1; PUSH 0; " + op + " 6; PUSH 1; RETURN; FUNC 1; PUSH 1; RETURN", 2);
            form("FUNC 1; PUSH 1; RETURN; FUNC 1; PUSH 0; " + op + " 3", 5);
            form("FUNC 1; PUSH 1; RETURN; FUNC 1; PUSH 0; " + op + " 2", 5);
            formed("FUNC 1; PUSH 0; " + op + " 4; PUSH 1; RETURN; FUNC 1; PUSH 1; RETURN");
            formed("FUNC 1; PUSH 0; " + op + " 2; PUSH 1; RETURN");
        }
        for (String op : new String[] {"CALL", "PRIV", "SPAWN"}) {
            form("FUNC 1; PUSH 0; " + op + " 1; RETURN", 2);
            form("FUNC 1; PUSH 0; " + op + " -1; RETURN", 2);
            form("FUNC 1; PUSH 0; " + op + " 2; RETURN; FUNC 1; PUSH 0; RETURN", 2);
            formed("FUNC 1; PUSH 0; " + op + " 1; RETURN; FUNC 1; PUSH 0; RETURN");
            formed("FUNC 1; PUSH 0; " + op + " 0; RETURN");
            // the fifth function is there, but is wrong itself
            form("FUNC 1; PUSH 0; " + op + " 4; RETURN; FUNC 1; FUNC 1; FUNC 1; FUNC 1", 7);
        }
        form("FUNC 1; PUSH 0; SEND 4; RETURN", 2);
        form("FUNC 1; PUSH 0; SEND -1; RETURN", 2);
        formed("FUNC 1; PUSH 0; SEND 3; RETURN");
        form("FUNC 1; GUARD 4 0; RETURN", 1);
        form("FUNC 1; GUARD -1 0; RETURN", 1);
        form("FUNC 1; GUARD 0 84; RETURN", 1);
        form("FUNC 1; GUARD 0 -1; RETURN", 1);
        formed("FUNC 1; GUARD 3 83; RETURN");
        formed("FUNC 1 -9; PUSH " + MIN + " 99; DUP 9 9; ADD -4 -4; RETURN 77 " + MAX);
        form("FUNC 1; FUNC 1; FUNC 1; FUNC 1; PUSH 1; RETURN; FUNC 1", 6);
        form("FUNC 1; FUNC 1; FUNC 1; FUNC 1; FUNC 1; FUNC 0; WHAT", 4);
        TenantHost x = new TenantHost(1);
        due("6 none yet", x.place(), -1);
        for (int op : new int[] {-1, 24, MIN, MAX}) {
            add(x, "FUNC 1; PUSH 1; RETURN");
            x.code(op, 0, 0);
            due("6 op " + op, x.deploy(2), 1);
            due("6 its place", x.place(), 3);
        }
        add(x, "FUNC 1; PUSH 1; DROP; PUSH 1; DROP; PUSH 1; RETURN");
        due("6 a longer one before", x.deploy(2), 0);
        due("6 behind the end", deploy(x, 2, "FUNC 1; JUMP 2"), 1);
        due("6 place of behind the end", x.place(), 1);
        due("6 a call of what was there before", deploy(x, 2, "FUNC 1; PUSH 1; CALL 1; RETURN"), 1);
        due("6 place of that call", x.place(), 2);
        String full = pushes(0);
        for (int i = 1; i < 63; i++) full += "; YIELD";
        form(full + "; JUMP 64", 63);
        stack(full + "; YIELD", 63);
        stack(full + "; PUSH 1", 63);
        sound(full + "; JUMP 63");
        due("6 empty", x.deploy(2), 1);
        due("6 place of an empty one", x.place(), 0);
        due("6 asked twice", x.place(), 0);
        due("6 OK", deploy(x, 2, ECHO), 0);
        due("6 place then", x.place(), -1);
    }

    private static void stack(String text, int place) {
        TenantHost x = new TenantHost(4);
        due("6 STACK of " + text, deploy(x, 3, text), 2);
        due("6 place of " + text, x.place(), place);
        due("6 no bundle of " + text, x.tenant(3, 4), 0);
    }

    private static void sound(String text) {
        TenantHost x = new TenantHost(4);
        due("6 OK of " + text, deploy(x, 3, text), 0);
        due("6 no place of " + text, x.place(), -1);
    }

    private static void promise6PlaceOfStack() {
        String[] table = {"DUP 1 2", "DROP 1 0", "SWAP 2 2", "ADD 2 1", "SUB 2 1", "MUL 2 1", "LESS 2 1",
            "SAME 2 1", "STORE 1 0", "CALL 1 1", "PRIV 1 1", "SEND 1 2", "SPAWN 1 1", "GUARD_1 1 0", "ALLOC 1 1",
            "FREE 1 0", "PUSH 0 1", "LOAD 0 1", "GUARD 0 1", "GUARD_2 0 1", "GUARD_3 0 1", "YIELD 0 0"};
        for (String row : table) {
            String[] word = row.split(" ");
            String op = word[0].replace('_', ' ');
            int pops = Integer.parseInt(word[1]);
            int pushes = Integer.parseInt(word[2]);
            if (pops > 0) stack(pushes(pops - 1) + "; " + op + "; JUMP 1", pops);
            // the loop is sound only if the height behind the instruction is the one that is undone
            int height = pops + 1 - pops + pushes;
            StringBuilder rest = new StringBuilder("; ").append(op);
            for (int i = 0; i < height; i++) rest.append("; DROP");
            sound(pushes(pops + 1) + rest + "; JUMP 1");
            stack(pushes(pops + 1) + rest + "; DROP; JUMP 1", pops + 2 + height + 1);
            int full = 8 - (pushes > pops ? pushes - pops : 0);
            sound(pushes(full) + "; " + op + "; JUMP " + (full + 2));
            if (pushes > pops) stack(pushes(full + 1) + "; " + op + "; JUMP 1", full + 2);
        }
        sound("FUNC 1; PUSH 0; ZERO 1; PUSH 1; RETURN");
        stack("FUNC 1; ZERO 1; PUSH 1; RETURN", 1);
        stack("FUNC 1; RETURN", 1);
        stack("FUNC 1; THROW", 1);
        sound("FUNC 1; PUSH 1; THROW");
        sound("FUNC 1; PUSH 1; PUSH 2; RETURN");
        stack("FUNC 1", 0);
        stack("FUNC 1; YIELD", 1);
        stack("FUNC 1; FUNC 1; PUSH 1; RETURN", 0);
        stack("FUNC 1; PUSH 1; RETURN; FUNC 2; YIELD; FUNC 3; PUSH 1; RETURN", 4);
        stack("FUNC 1; PUSH 0; ZERO 1", 2);
        stack("FUNC 1; PUSH 0; ZERO 1; FUNC 1; PUSH 1; RETURN", 2);
        // nothing is asked of what is not reached
        sound("FUNC 1; JUMP 3; DROP; PUSH 1; RETURN; ADD; SWAP");
        sound("FUNC 1; PUSH 1; THROW; FUNC 1; JUMP 4; DUP");
        // two heights by a jump forward, a jump back, and at a place behind that spoils earlier ones
        stack("FUNC 1; LOAD 0; ZERO 4; PUSH 1; PUSH 1; RETURN", 4);
        stack("FUNC 1; PUSH 1; JUMP 1", 1);
        stack("FUNC 1; YIELD; PUSH 1; YIELD; JUMP 3; RETURN; FUNC 1; PUSH 1; JUMP 7", 7);
        stack("FUNC 1; YIELD; PUSH 1; PUSH 1; ZERO 2; RETURN", 2);
        stack("FUNC 1; JUMP 4; YIELD; RETURN; PUSH 1; PUSH 1; ZERO 2; DROP; JUMP 2", 2);
        stack("FUNC 1; JUMP 5; PUSH 1; RETURN; YIELD; DROP; JUMP 2", 5);
        // heights that come back from jump to jump, and one that only a loop's later heights lead to
        stack("FUNC 1; JUMP 7; DROP; JUMP 3; JUMP 2; JUMP 4; JUMP 5; JUMP 6", 2);
        stack("FUNC 1; JUMP 4; DROP; JUMP 3; PUSH 1; LOAD 0; ZERO 4; ADD; ADD; JUMP 2", 2);
        // both ways of a ZERO go on with the same height
        sound("FUNC 1; LOAD 0; ZERO 5; PUSH 1; RETURN; PUSH 2; RETURN");
        stack("FUNC 1; LOAD 0; ZERO 5; PUSH 1; RETURN; RETURN", 5);
    }

    private static void promise7Limits() {
        TenantHost x = host(16, "FUNC 1; LOAD 0; ALLOC; RETURN");
        for (int bad : new int[] {-1, 1000001, MIN, MAX}) {
            due("7 ticks " + bad, x.limits(0, bad, 1, 1), false);
            due("7 units " + bad, x.limits(0, 1, bad, 1), false);
            due("7 threads " + bad, x.limits(0, 1, 1, bad), false);
            due("7 tenant " + bad, x.limits(bad, 1, 1, 1), false);
        }
        due("7 tenant 4", x.limits(4, 1, 1, 1), false);
        due("7 nothing changed", ends(x, 100), "0 1");
        due("7 zero units", x.limits(0, 1000, 0, 1), true);
        due("7 more than the limit is held", ends(x, 0), "0 0");
        due("7 held", x.tenant(0, 1), 100);
        due("7 the most", x.limits(0, 1000000, 1000000, 1000000), true);
        due("7 up to the most", ends(x, 999900), "0 1");
        due("7 none more", ends(x, 1), "0 0");
        due("7 the greatest int", ends(x, MAX), "0 0");
        for (int k = 0; k < 6; k++) due("7 six threads", x.start(0, 0, 0), k);
        due("7 no seventh", x.start(0, 0, 0), -1);
        x.run(200);
        due("7 zero threads", x.limits(0, 1000, 10, 0), true);
        due("7 no thread", x.start(0, 0, 0), -1);
        due("7 zero ticks", x.limits(0, 0, 10, 1), true);
        due("7 a thread", x.start(0, 0, 0), 0);
        due("7 no tick", x.run(9), 1);
        due("7 QUOTA", thread(x, 0), "0 2 0 0 0");
        int used = x.tenant(0, 0);
        x.limits(0, used + 3, 10, 1);
        x.start(0, 0, 0);
        due("7 three ticks", x.run(9), 4);
        due("7 three used", x.tenant(0, 0), used + 3);
        due("7 QUOTA again", thread(x, 0), "0 2 0 0 0");
        x = host(16, LOOP, LOOP);
        x.limits(1, 5, 5, 5);
        x.start(0, 0, 0);
        due("7 the other's limits stay", x.run(20), 20);
        x.start(0, 0, 0);
        x.start(0, 0, 0);
        x.limits(0, 1000, 5, 1);
        due("7 fewer than there are", x.start(0, 0, 0), -1);
        due("7 they go on", x.tenant(0, 2), 3);
    }

    private static void promise8Capability() {
        TenantHost x = host(16, "FUNC 1; PUSH 7; SEND 0; SWAP; DROP; RETURN",
            "FUNC 1; LOAD 0; RETURN; FUNC 1; PUSH 1; THROW");
        for (int bad : new int[] {-1, 4, MIN, MAX}) {
            due("8 tenant " + bad, x.capability(bad, 0, 1, 0), false);
            due("8 slot " + bad, x.capability(0, bad, 1, 0), false);
            due("8 to " + bad, x.capability(0, 0, bad, 0), false);
            due("8 function " + bad, x.capability(0, 0, 1, bad), false);
        }
        due("8 nothing changed", ends(x, 0), "0 5");
        due("8 for a function", x.capability(0, 0, 1, 0), true);
        due("8 it leads there", ends(x, 0), "0 0");
        due("8 refused", x.capability(0, 0, 1, 4), false);
        due("8 keeps the old one", ends(x, 0), "0 0");
        due("8 another instead", x.capability(0, 0, 1, 1), true);
        due("8 it leads elsewhere", ends(x, 0), "0 11");
        due("8 a function that is not there", x.capability(0, 0, 1, 2), true);
        due("8 code 3", ends(x, 0), "0 3");
        due("8 a tenant without bundle", x.capability(0, 0, 3, 0), true);
        due("8 code 3 again", ends(x, 0), "0 3");
        deploy(x, 3, ECHO);
        due("8 when it has a bundle", ends(x, 0), "0 0");
        due("8 last of all", x.capability(3, 3, 3, 3), true);
        due("8 slots are apart", x.revoke(3, 2), false);
        due("8 slots are per tenant", x.revoke(2, 3), false);
        due("8 last is there", x.revoke(3, 3), true);
        x = host(16, "FUNC 1; PUSH 7; SEND 0; DROP; RETURN", ECHO, "FUNC 1; PUSH 9; RETURN");
        x.capability(0, 0, 1, 0);
        x.capability(0, 1, 2, 0);
        due("8 the slot of the instruction", ends(x, 0), "0 7");
        x.capability(1, 0, 2, 0);
        due("8 the slot of the tenant", ends(x, 0), "0 7");
    }

    private static void promise9Revoke() {
        TenantHost x = host(16, "FUNC 1; PUSH 7; SEND 2; SWAP; DROP; RETURN", ECHO);
        due("9 none there", x.revoke(0, 2), false);
        x.capability(0, 2, 1, 0);
        for (int bad : new int[] {-1, 4, MIN, MAX}) {
            due("9 tenant " + bad, x.revoke(bad, 2), false);
            due("9 slot " + bad, x.revoke(0, bad), false);
        }
        due("9 before", ends(x, 0), "0 0");
        due("9 revoked", x.revoke(0, 2), true);
        due("9 code 4", ends(x, 0), "0 4");
        due("9 twice", x.revoke(0, 2), false);
        x.kill(1);
        due("9 before code 3", ends(x, 0), "0 4");
        due("9 a new one", x.capability(0, 2, 1, 0), true);
        due("9 code 3", ends(x, 0), "0 3");
        due("9 revoked again", x.revoke(0, 2), true);
        x = host(16, "FUNC 1; PUSH 7; SEND 0; DROP; RETURN", "FUNC 1; YIELD; LOAD 0; RETURN");
        x.capability(0, 0, 1, 0);
        x.start(0, 0, 0);
        x.run(4);
        x.revoke(0, 0);
        x.run(20);
        due("9 a call under way goes on", thread(x, 0), "0 0 7 0 0");
    }

    private static void promise10Start() {
        TenantHost x = host(16, LOOP, "FUNC 4; LOAD 0; LOAD 1; ADD; RETURN; FUNC 1; LOAD 0; PUSH 1; ADD; RETURN");
        for (int bad : new int[] {-1, 4, MIN, MAX}) due("10 tenant " + bad, x.start(bad, 0, 0), -1);
        due("10 no bundle", x.start(2, 0, 0), -1);
        for (int bad : new int[] {-1, 2, 4, MIN, MAX}) due("10 function " + bad, x.start(1, bad, 0), -1);
        due("10 none was begun", thread(x, 0), "-1 -1 -1 -1 -1");
        due("10 begins", x.start(1, 1, 41), 0);
        due("10 as it begins", thread(x, 0), "1 -1 0 2 1");
        x.run(200);
        due("10 argument and function", thread(x, 0), "0 0 42 0 0");
        due("10 the same number", x.start(1, 0, MIN), 0);
        due("10 the answers are new", thread(x, 0), "1 -1 0 2 1");
        x.run(200);
        due("10 other locals are 0", thread(x, 0), "0 0 " + MIN + " 0 0");
        for (int k = 0; k < 3; k++) due("10 least number", x.start(0, 0, 0), k);
        due("10 limit", x.start(0, 0, 0), -1);
        due("10 limit is per tenant", x.start(1, 1, 0), 3);
        due("10 next", x.start(1, 1, 1), 4);
        due("10 last", x.start(1, 1, 2), 5);
        x.limits(0, 1000, 0, 10);
        due("10 six in use", x.start(0, 0, 0), -1);
        x.kill(1);
        x.run(200);
        due("10 ended by kill", thread(x, 4), "0 3 0 0 0");
        due("10 killed", x.start(1, 0, 0), -1);
        due("10 the least free one", x.start(0, 0, 0), 3);
        x = host(16, LOOP, ECHO, LOOP);
        x.start(0, 0, 0);
        x.start(1, 0, 0);
        x.start(2, 0, 0);
        x.run(100);
        due("10 a gap", thread(x, 1), "0 0 0 0 0");
        due("10 is filled", x.start(2, 0, 0), 1);
        due("10 then behind", x.start(2, 0, 0), 3);
    }

    private static void promise11Run() {
        TenantHost x = host(3, LOOP);
        due("11 no threads", x.run(200), 0);
        x.start(0, 0, 0);
        for (int bad : new int[] {-1, 201, MIN, MAX}) due("11 n " + bad, x.run(bad), 0);
        due("11 none", x.run(0), 0);
        due("11 no tick", x.tenant(0, 0), 0);
        due("11 one", x.run(1), 1);
        due("11 the most", x.run(200), 200);
        due("11 ticks", x.tenant(0, 0), 201);
        x = host(3, ECHO);
        x.start(0, 0, 1);
        x.start(0, 0, 2);
        due("11 fewer", x.run(200), 6);
        due("11 all have ended", x.run(200), 0);
        x.start(0, 0, 3);
        due("11 just so many", x.run(3), 3);
        due("11 ended then", thread(x, 0), "0 0 3 0 0");
    }

    private static void promise11Turns() {
        TenantHost x = host(3, "FUNC 1; YIELD; JUMP 1", "FUNC 1; LOAD 0; PUSH 1; ADD; RETURN");
        x.start(0, 0, 0);
        x.start(1, 0, 0);
        x.start(0, 0, 0);
        int[] turns = {0, 0, 1, 1, 1, 2, 2, 0, 0, 1, 1, 2, 2, 0, 0, 2, 2, 0};
        for (int i = 0; i < turns.length; i++) {
            due("11 turn before step " + i, turn(x), turns[i]);
            due("11 step " + i, x.run(1), 1);
        }
        due("11 thread 1 ended", x.thread(1, 1), 0);
        due("11 begun again", x.start(1, 0, 5), 1);
        due("11 the turn stays", turn(x), 0);
        x.run(1);
        due("11 then it is the next", turn(x), 1);
        x = host(3, "FUNC 1; LOAD 0; RETURN; FUNC 1; JUMP 4");
        x.start(0, 1, 0);
        x.start(0, 0, 0);
        x.run(2);
        due("11 two of three", turn(x), 0);
        x.run(1);
        due("11 three", turn(x), 1);
        x.run(3);
        due("11 its end", turn(x), 0);
        x.run(3);
        due("11 alone it goes on", turn(x), 0);
        x.run(2);
        x.start(0, 0, 0);
        due("11 begun later, no turn", turn(x), 0);
        x.run(1);
        due("11 but then", turn(x), 1);
        x = host(4, "FUNC 1; YIELD; JUMP 1; FUNC 1; JUMP 4");
        x.start(0, 0, 0);
        x.run(2);
        due("11 a yield to itself", turn(x), 0);
        x.start(0, 1, 0);
        x.run(1);
        due("11 whole quantum, one used", turn(x), 0);
        x.run(1);
        due("11 yields", turn(x), 1);
        x.run(3);
        due("11 a whole quantum after a yield", turn(x), 1);
        x.run(1);
        due("11 is over", turn(x), 0);
        x = host(5, ECHO, LOOP);
        x.start(0, 0, 0);
        x.run(3);
        due("11 none", turn(x), -1);
        x.start(1, 0, 0);
        x.start(1, 0, 0);
        x.run(4);
        due("11 a whole quantum after none", turn(x), 0);
        x.run(1);
        due("11 five steps", turn(x), 1);
        x = host(5, LOOP, ECHO);
        x.limits(0, 1000, 0, 6);
        for (int k = 0; k < 5; k++) x.start(0, 0, 0);
        x.start(1, 0, 0);
        x.run(25);
        due("11 thread 5", turn(x), 5);
        x.run(3);
        due("11 0 behind 5", turn(x), 0);
        x = host(4, "FUNC 1; LOAD 0; SEND 0; DROP; RETURN", LOOP, LOOP);
        x.capability(0, 0, 1, 0);
        x.limits(1, 0, 0, 0);
        x.start(0, 0, 0);
        x.start(2, 0, 0);
        x.run(3);
        due("11 three steps", turn(x), 0);
        x.run(1);
        due("11 a step with an exception counts", turn(x), 1);
        due("11 it was caught", thread(x, 0), "1 -1 0 1 0");
    }

    private static void value(String body, int want) {
        due("11 " + body, endsAlone("FUNC 2; " + body + "; RETURN", 5), "0 " + want);
    }

    private static void promise11Instructions() {
        value("PUSH " + MIN, MIN);
        value("PUSH 3; DUP; MUL", 9);
        value("PUSH 3; PUSH 4; DROP", 3);
        value("PUSH 1; PUSH 3; PUSH 4; DROP; ADD", 4);
        value("PUSH 3; PUSH 4; SWAP", 3);
        value("PUSH 3; PUSH 4; SWAP; DROP", 4);
        value("PUSH 3; PUSH 4; ADD", 7);
        value("PUSH " + MAX + "; PUSH 1; ADD", MIN);
        value("PUSH 3; PUSH 4; SUB", -1);
        value("PUSH " + MIN + "; PUSH 1; SUB", MAX);
        value("PUSH 65536; PUSH 65537; MUL", 65536);
        value("PUSH -3; PUSH 4; MUL", -12);
        value("PUSH 3; PUSH 4; LESS", 1);
        value("PUSH 4; PUSH 4; LESS", 0);
        value("PUSH 4; PUSH 3; LESS", 0);
        value("PUSH " + MIN + "; PUSH " + MAX + "; LESS", 1);
        value("PUSH 4; PUSH 4; SAME", 1);
        value("PUSH 4; PUSH -4; SAME", 0);
        value("LOAD 0", 5);
        value("LOAD 1", 0);
        value("PUSH 8; STORE 1; LOAD 0; LOAD 1; SUB", -3);
        value("PUSH 8; STORE 0; LOAD 0", 8);
        value("PUSH 1; JUMP 4; DROP; YIELD", 1);
        value("PUSH 1; PUSH 0; ZERO 6; DROP; PUSH 2", 1);
        value("PUSH 1; PUSH 9; ZERO 6; DROP; PUSH 2", 2);
        String calls = "FUNC 2; PUSH 9; STORE 1; PUSH 20; LOAD 0; CALL 1; SUB; LOAD 1; ADD; RETURN;"
            + " FUNC 4; LOAD 1; LOAD 3; ADD; LOAD 0; PUSH 6; STORE 0; PUSH 7; STORE 3; ADD; RETURN";
        due("11 CALL", endsAlone(calls, 4), "0 25");
        due("11 PRIV", endsAlone(calls.replace("CALL", "PRIV"), 4), "0 25");
        TenantHost x = host(16, calls);
        x.start(0, 0, 4);
        due("11 its steps", x.run(200), 21);
        due("11 a tick for each", x.tenant(0, 0), 21);
        value("PUSH 9; LOAD 0; SEND 0; DROP", 0);
        due("11 locals are new in each frame", endsAlone("FUNC 1; PUSH 0; CALL 1; PUSH 0; CALL 1; ADD; RETURN;"
            + " FUNC 4; LOAD 1; LOAD 2; LOAD 3; ADD; ADD; PUSH 5; STORE 1; PUSH 6; STORE 2; PUSH 7; STORE 3; RETURN", 0), "0 0");
        due("11 values are new in each frame", endsAlone("FUNC 1; PUSH 0; CALL 1; CALL 1; RETURN;"
            + " FUNC 1; PUSH 1; PUSH 2; PUSH 3; PUSH 4; PUSH 5; PUSH 6; LOAD 0; PUSH 8; ADD; RETURN", 0), "0 16");
        String fact = "FUNC 1; LOAD 0; ZERO 9; LOAD 0; PUSH 1; SUB; CALL 0; LOAD 0; JUMP 11; PUSH 1; RETURN; MUL; RETURN";
        due("11 five frames deep", endsAlone(fact, 5), "0 120");
        due("11 too deep", endsAlone(fact, 6), "6 0");
        x = host(16, "FUNC 1; LOAD 0; SEND 1; PUSH 100; MUL; ADD; RETURN", "FUNC 1; LOAD 0; PUSH 1; ADD; RETURN");
        due("11 SEND, empty", ends(x, 4), "0 500");
        x.capability(0, 1, 1, 0);
        due("11 SEND, well", ends(x, 4), "0 5");
        due("11 each tenant's ticks", x.tenant(0, 0) + " " + x.tenant(1, 0), "14 5");
    }

    private static void promise11Exceptions() {
        for (int v : new int[] {0, 1, 15, 16, 17, -1, MIN, MAX}) {
            due("11 THROW " + v, endsAlone("FUNC 1; LOAD 0; THROW", v), 10 + (v & 15) + " 0");
        }
        String sends = "FUNC 1; PUSH 50; LOAD 0; SEND 0; PUSH 100; MUL; ADD; ADD; RETURN";
        TenantHost x = host(16, sends, "FUNC 1; LOAD 0; CALL 1; RETURN; FUNC 1; LOAD 0; PRIV 2; RETURN;"
            + " FUNC 1; LOAD 0; THROW");
        x.capability(0, 0, 1, 0);
        due("11 up to the SEND", ends(x, 3), "0 1350");
        due("11 its values are kept", x.thread(0, 0), 0);
        x.capability(0, 0, 1, 3);
        due("11 no such function", ends(x, 3), "0 350");
        x.capability(0, 0, 1, 0);
        x.limits(1, x.tenant(1, 0) + 2, 0, 0);
        due("11 QUOTA of the one called", ends(x, 3), "0 250");
        due("11 QUOTA at once", ends(x, 3), "0 250");
        x = host(16, sends, "FUNC 1; GUARD 0 0; RETURN");
        x.capability(0, 0, 1, 0);
        x.grant(0, 15, 509);
        due("11 ACCESS", ends(x, 0), "0 150");
        x = host(16, "FUNC 1; PUSH 9; LOAD 0; SEND 0; DROP; RETURN", "FUNC 1; LOAD 0; THROW");
        x.capability(0, 0, 1, 0);
        due("11 the result with an exception", ends(x, 7), "0 0");
        // two SENDs: only the newest one gets the exception
        x = host(16, sends, "FUNC 1; LOAD 0; SEND 0; ADD; RETURN", "FUNC 1; LOAD 0; THROW");
        x.capability(0, 0, 1, 0);
        x.capability(1, 0, 2, 0);
        due("11 the first SEND's", ends(x, 4), "0 64");
        // at six frames a SEND looks at its slot first
        String six = "FUNC 1; LOAD 0; ZERO 8; LOAD 0; PUSH 1; SUB; CALL 0; RETURN; PUSH 1; SEND 3; SWAP; DROP; RETURN";
        x = host(16, six, ECHO);
        due("11 six frames, empty", ends(x, 5), "0 5");
        x.capability(0, 3, 1, 1);
        due("11 six frames, no function", ends(x, 5), "0 3");
        x.capability(0, 3, 1, 0);
        due("11 five frames", ends(x, 4), "0 0");
        due("11 six frames, DEPTH", ends(x, 5), "6 0");
        x.revoke(0, 3);
        due("11 six frames, revoked", ends(x, 5), "0 4");
        x = host(16, six.replace("CALL 0", "PRIV 0").replace("SEND 3; SWAP; DROP", "PRIV 0"));
        due("11 PRIV six frames", ends(x, 5), "6 0");
        due("11 ticks with DEPTH", x.tenant(0, 0), 5 * 7 + 5);
        x = host(16, "FUNC 1; LOAD 0; THROW; FUNC 1; LOAD 0; SEND 0; SWAP; DROP; RETURN");
        x.capability(0, 0, 0, 0);
        x.start(0, 1, 2);
        x.run(200);
        due("11 a SEND to itself", thread(x, 0), "0 0 12 0 0");
    }

    private static void promise11Spawn() {
        TenantHost x = host(16, "FUNC 1; LOAD 0; SPAWN 1; RETURN; FUNC 1; LOAD 0; PUSH 1; ADD; RETURN");
        due("11 the number", ends(x, 6), "0 1");
        due("11 what it returned", thread(x, 1), "0 0 7 0 0");
        x.limits(0, 1000, 0, 1);
        due("11 limit", ends(x, 6), "0 -1");
        due("11 old answers stay", thread(x, 1), "0 0 7 0 0");
        x = host(16, "FUNC 1; LOAD 0; SPAWN 0; DROP; JUMP 1");
        x.limits(0, 1000, 0, 10);
        x.start(0, 0, 0);
        x.run(200);
        due("11 all six", x.tenant(0, 2), 6);
        due("11 none more", x.tenant(0, 3), 6);
        // a thread belongs to the tenant of the frame that spawned it
        x = host(16, "FUNC 1; LOAD 0; SEND 0; DROP; RETURN", "FUNC 1; LOAD 0; SPAWN 1; RETURN; FUNC 1; JUMP 5");
        x.capability(0, 0, 1, 0);
        x.limits(0, 1000, 0, 1);
        due("11 spawned by the other", ends(x, 0), "0 1");
        due("11 the first's threads", x.tenant(0, 2), 0);
        due("11 the other's threads", x.tenant(1, 2), 1);
        due("11 inherited", thread(x, 1), "1 -1 0 3 1");
        due("11 inherited is no frame", tenant(x, 0).split(" ")[3], "0");
        due("11 so not busy", deploy(x, 0, ECHO), 0);
        x.start(0, 0, 0);
        due("11 begun by start", x.thread(0, 3), 1);
    }

    private static void promise11Units() {
        String text = "FUNC 1; LOAD 0; ALLOC; RETURN; FUNC 1; LOAD 0; FREE; PUSH 1; RETURN";
        TenantHost x = host(16, text, "FUNC 1; LOAD 0; SEND 0; DROP; RETURN");
        due("11 ALLOC 60", ends(x, 60), "0 1");
        due("11 ALLOC 41", ends(x, 41), "0 0");
        due("11 ALLOC 40", ends(x, 40), "0 1");
        due("11 ALLOC 0", ends(x, 0), "0 1");
        for (int n : new int[] {1, -1, MIN, MAX}) due("11 ALLOC " + n, ends(x, n), "0 0");
        due("11 100 held", x.tenant(0, 1), 100);
        int[][] frees = {{0, 100}, {-1, 100}, {MIN, 100}, {1, 99}, {98, 1}, {2, 0}, {MAX, 0}};
        for (int[] f : frees) {
            x.start(0, 1, f[0]);
            x.run(200);
            due("11 FREE " + f[0], x.tenant(0, 1), f[1]);
        }
        x.capability(1, 0, 0, 0);
        x.start(1, 0, 9);
        x.run(200);
        due("11 the top tenant's units", x.tenant(0, 1) + " " + x.tenant(1, 1), "9 0");
        due("11 kept though no thread runs", ends(x, 91), "0 1");
    }

    private static void promise11Domains() {
        // 0 sends to 1, which sends to 2, which reads path 0 itself, by CALL, by PRIV or in a new thread
        String last = "FUNC 1; PUSH 1; HOW 1; RETURN; FUNC 1; YIELD; GUARD 0 0; DROP; PUSH 1; RETURN";
        String middle = "FUNC 1; LOAD 0; SEND 0; ADD; RETURN; FUNC 1; LOAD 0; PRIV 0; RETURN";
        String first = "FUNC 1; LOAD 0; SEND 0; ADD; RETURN";
        for (String op : new String[] {"CALL", "PRIV", "SPAWN"}) {
            for (int route = 0; route < 2; route++) {
                TenantHost x = host(16, first, middle, last.replace("HOW", op));
                x.capability(0, 0, 1, route);
                x.capability(1, 0, 2, 0);
                x.start(0, 0, 0);
                int spawned = op.equals("SPAWN") ? 1 : 0;
                for (int i = 0; i < 30 && x.audit(0) == -1; i++) {
                    if (x.tenant(2, 0) == 5 && spawned == 0) {
                        int domains = op.equals("PRIV") ? 4 : route == 1 ? 6 : 7;
                        due("11 domains " + op + route, x.thread(0, 3), domains);
                    }
                    if (x.tenant(2, 2) == 1) due("11 inherited " + route, x.thread(1, 3), route == 1 ? 6 : 7);
                    x.run(1);
                }
                due("11 denied " + op + route, x.audit(0), 1024);
            }
        }
        for (int granted = 0; granted < 8; granted++) {
            for (int route = 0; route < 2; route++) {
                for (String op : new String[] {"CALL", "PRIV", "SPAWN"}) {
                    TenantHost x = host(16, first, middle, last.replace("HOW", op));
                    x.capability(0, 0, 1, route);
                    x.capability(1, 0, 2, 0);
                    for (int t = 0; t < 3; t++) if ((granted >> t & 1) == 1) x.grant(t, 1, 504);
                    x.start(0, 0, 0);
                    x.run(200);
                    int needed = op.equals("PRIV") ? 4 : route == 1 ? 6 : 7;
                    boolean allowed = (granted & needed) == needed;
                    due("11 " + op + route + " granted " + granted, x.audit(0), allowed ? 3072 : 1024);
                }
            }
        }
        // a privileged frame in the spawning thread cuts what is inherited, one in the new thread too
        TenantHost x = host(16, "FUNC 1; LOAD 0; SEND 0; ADD; RETURN",
            "FUNC 1; LOAD 0; PRIV 1; RETURN; FUNC 1; LOAD 0; SPAWN 2; RETURN; FUNC 1; JUMP 9");
        x.capability(0, 0, 1, 0);
        ends(x, 0);
        due("11 inherits the cut domains", x.thread(1, 3), 2);
        x = host(16, "FUNC 1; LOAD 0; SEND 0; ADD; RETURN",
            "FUNC 1; LOAD 0; SPAWN 1; RETURN; FUNC 1; LOAD 0; PRIV 2; RETURN; FUNC 1; JUMP 9");
        x.capability(0, 0, 1, 0);
        x.start(0, 0, 0);
        x.run(11);
        due("11 all inherited", x.thread(1, 3), 3);
        x.run(40);
        due("11 PRIV leaves out the inherited", thread(x, 1), "2 -1 0 2 1");
        // what is denied does nothing
        x = host(16, "FUNC 1; LOAD 0; GUARD 1 7; PUSH 0; RETURN; FUNC 1; GUARD 2 7; RETURN");
        x.grant(0, 2, 509);
        due("11 written", ends(x, 9), "0 0");
        x.start(0, 1, 0);
        x.run(9);
        due("11 delete denied", thread(x, 0), "0 1 0 0 0");
        due("11 not deleted", x.resource(7), 9);
        x.withdraw(0, 0);
        due("11 write denied", ends(x, 8), "1 0");
        due("11 not written", x.resource(7), 9);
    }

    private static void promise12Kill() {
        TenantHost x = host(16, "FUNC 1; PUSH 30; ALLOC; RETURN", "FUNC 1; LOAD 0; SEND 0; DROP; RETURN");
        for (int bad : new int[] {-1, 4, MIN, MAX}) due("12 tenant " + bad, x.kill(bad), false);
        due("12 no bundle", x.kill(2), false);
        due("12 still no bundle", x.tenant(2, 4), 0);
        ends(x, 0);
        due("12 held", x.tenant(0, 1), 30);
        due("12 killed", x.kill(0), true);
        due("12 no units, ticks stay", tenant(x, 0), "4 0 0 0 2 1 0");
        due("12 twice", x.kill(0), false);
        due("12 deployed again", deploy(x, 0, "FUNC 1; PUSH 30; ALLOC; YIELD; RETURN"), 0);
        due("12 killed again", x.kill(0), true);

        x = host(16, "FUNC 1; PUSH 30; ALLOC; YIELD; RETURN", "FUNC 1; LOAD 0; SEND 0; DROP; YIELD; RETURN");
        x.capability(1, 0, 0, 0);
        x.start(1, 0, 0);
        x.start(0, 0, 0);
        x.run(11);
        due("12 frames on two threads", tenant(x, 0), "8 60 1 2 1 1 0");
        due("12 while it has frames", x.kill(0), true);
        due("12 still held", tenant(x, 0), "8 60 1 2 2 1 0");
        x.run(3);
        due("12 held with one frame", tenant(x, 0), "9 60 1 1 2 1 0");
        x.run(1);
        due("12 none with no frame", tenant(x, 0), "10 0 0 0 2 1 0");
        x.run(9);
        due("12 without a poll they end well", thread(x, 1), "0 0 1 0 0");
        due("12 the caller too", thread(x, 0), "0 0 1 0 0");

        x = host(16, "FUNC 1; LOAD 0; SEND 0; PUSH 10; MUL; ADD; RETURN", "FUNC 1; PUSH 5; ALLOC; DROP; JUMP 4");
        x.capability(0, 0, 1, 0);
        x.start(0, 0, 0);
        x.run(9);
        due("12 in the loop", thread(x, 0), "2 -1 0 3 1");
        due("12 held in the loop", x.tenant(1, 1), 5);
        x.kill(1);
        due("12 held until it ends", x.tenant(1, 1), 5);
        int ticks = x.tenant(1, 0);
        x.run(1);
        due("12 frame taken away", thread(x, 0), "1 -1 0 1 1");
        due("12 units gone", x.tenant(1, 1), 0);
        due("12 no tick", x.tenant(1, 0), ticks);
        x.run(20);
        due("12 the SEND's code", thread(x, 0), "0 0 30 0 0");
    }

    private static void promise12Polls() {
        String[] polls = {"PUSH 1; CALL 0", "PUSH 1; PRIV 0", "PUSH 1; SEND 0", "PUSH 1; SPAWN 0",
            "YIELD; JUMP 2", "YIELD; JUMP 3", "PUSH 1; ZERO 2", "PUSH 1; DROP; PUSH 1; ZERO 4", "PUSH 1; DROP; PUSH 0; ZERO 2"};
        String[] others = {"PUSH 1; DROP", "PUSH 1; DUP; ADD", "PUSH 1; PUSH 2; SWAP; SUB; PUSH 3; MUL", "JUMP 3",
            "PUSH 1; ZERO 4", "PUSH 0; ZERO 4", "PUSH 1; ALLOC", "PUSH 1; FREE", "GUARD 0 0", "PUSH 1; PUSH 1; LESS",
            "PUSH 1; PUSH 1; SAME", "LOAD 0; STORE 0", "YIELD", "PUSH 1; GUARD 1 0"};
        for (String body : polls) {
            TenantHost x = host(16, "FUNC 1; YIELD; " + body + "; YIELD; PUSH 1; RETURN");
            x.capability(0, 0, 1, 0);
            x.start(0, 0, 0);
            x.run(2);
            x.kill(0);
            x.run(20);
            due("12 poll " + body, thread(x, 0), "0 3 0 0 0");
            due("12 ticks to " + body, x.tenant(0, 0), 2 + body.split(";").length - 1);
        }
        for (String body : others) {
            TenantHost x = host(16, "FUNC 1; YIELD; " + body + "; YIELD; PUSH 1; RETURN");
            x.grant(0, 15, 509);
            x.start(0, 0, 0);
            x.run(2);
            x.kill(0);
            x.run(20);
            due("12 no poll " + body, thread(x, 0), "0 0 1 0 0");
        }
        TenantHost x = host(16, "FUNC 1; PUSH 1; RETURN");
        x.start(0, 0, 0);
        x.kill(0);
        due("12 FUNC is a step", x.run(9), 1);
        due("12 FUNC is a poll", thread(x, 0), "0 3 0 0 0");
        x = host(16, "FUNC 1; PUSH 1; RETURN");
        x.start(0, 0, 0);
        x.kill(0);
        x.limits(0, 0, 0, 0);
        x.run(1);
        due("12 KILLED before QUOTA", x.thread(0, 1), 3);
        x = host(16, "FUNC 1; PUSH 1; RETURN");
        x.start(0, 0, 0);
        x.run(1);
        x.kill(0);
        x.limits(0, 1, 0, 0);
        x.run(1);
        due("12 QUOTA where no poll is", x.thread(0, 1), 2);
        // only the top frame's tenant is looked at
        x = host(16, "FUNC 1; LOAD 0; SEND 0; ADD; RETURN", "FUNC 1; PUSH 3; CALL 1; RETURN; FUNC 1; LOAD 0; RETURN");
        x.capability(0, 0, 1, 0);
        x.start(0, 0, 0);
        x.run(4);
        x.kill(0);
        x.run(20);
        due("12 a killed tenant below", thread(x, 0), "0 0 3 0 0");
    }

    private static void promise13Tenant() {
        TenantHost x = host(16, "FUNC 1; LOAD 0; CALL 1; RETURN; FUNC 1; PUSH 4; ALLOC; SEND 0; ADD; RETURN",
            "FUNC 1; LOAD 0; SPAWN 1; RETURN; FUNC 1; JUMP 5; FUNC 1; JUMP 7; FUNC 1; JUMP 9");
        x.capability(0, 0, 1, 1);
        x.grant(0, 1, 504);
        x.grant(0, 1, 505);
        for (int bad : new int[] {-1, 4, MIN, MAX}) {
            for (int what = -1; what < 8; what++) due("13 tenant " + bad, x.tenant(bad, what), -1);
        }
        for (int bad : new int[] {-1, 7, MIN, MAX}) due("13 what " + bad, x.tenant(0, bad), -1);
        due("13 at first", tenant(x, 0), "0 0 0 0 1 2 2");
        due("13 the other", tenant(x, 1), "0 0 0 0 1 4 0");
        due("13 without bundle", tenant(x, 2), "0 0 0 0 0 0 0");
        x.start(0, 0, 0);
        x.run(7);
        due("13 calling", tenant(x, 0), "7 4 1 2 1 2 2");
        due("13 called", tenant(x, 1), "0 0 0 1 1 4 0");
        x.start(1, 0, 0);
        x.run(40);
        due("13 calling still", tenant(x, 0), "7 4 1 2 1 2 2");
        due("13 with a spawned thread", tenant(x, 1).substring(3), "0 1 2 1 4 0");
        x.kill(1);
        due("13 killed", x.tenant(1, 4), 2);
        due("13 killed has functions", x.tenant(1, 5), 4);
        x.run(200);
        due("13 at the end", tenant(x, 0), "10 4 0 0 1 2 2");
        due("13 none left", tenant(x, 1).substring(3), "0 0 0 2 4 0");
    }

    private static void promise14Thread() {
        TenantHost x = host(16, "FUNC 1; LOAD 0; CALL 1; RETURN; FUNC 1; LOAD 0; PUSH 2; MUL; RETURN;"
            + " FUNC 1; LOAD 0; THROW", LOOP);
        x.start(0, 0, 21);
        for (int bad : new int[] {-1, 6, MIN, MAX}) {
            for (int what = -1; what < 6; what++) due("14 thread " + bad, x.thread(bad, what), -1);
        }
        for (int what = -1; what < 6; what++) due("14 never used", x.thread(1, what), -1);
        for (int bad : new int[] {-1, 5, MIN, MAX}) due("14 what " + bad, x.thread(0, bad), -1);
        due("14 at first", thread(x, 0), "1 -1 0 1 1");
        x.run(4);
        due("14 two frames", thread(x, 0), "2 -1 0 1 1");
        x.run(4);
        due("14 one again", thread(x, 0), "1 -1 0 1 1");
        x.run(1);
        due("14 returned", thread(x, 0), "0 0 42 0 0");
        for (int bad : new int[] {-1, 5}) due("14 what of an ended one " + bad, x.thread(0, bad), -1);
        x.start(0, 2, 5);
        x.run(9);
        due("14 by an exception", thread(x, 0), "0 15 0 0 0");
        x.start(1, 0, 0);
        x.start(0, 0, -8);
        due("14 not its turn", thread(x, 1), "1 -1 0 1 0");
        x.run(60);
        due("14 answers stay", thread(x, 1), "0 0 -16 0 0");
        due("14 the other runs", thread(x, 0), "1 -1 0 2 1");
    }

    private static void promise15Resource() {
        for (int path = 0; path < 84; path++) {
            TenantHost x = host(16, "FUNC 1; LOAD 0; GUARD 1 " + path + "; PUSH 0; RETURN; FUNC 1; GUARD 0 " + path
                + "; RETURN; FUNC 1; GUARD 2 " + path + "; RETURN");
            x.grant(0, 15, 509);
            ends(x, MIN + path);
            for (int p = 0; p < 84; p++) due("15 path " + p, x.resource(p), p == path ? MIN + path : 0);
            x.start(0, 1, 0);
            x.run(9);
            due("15 read", thread(x, 0), "0 0 " + (MIN + path) + " 0 0");
            due("15 read only", x.resource(path), MIN + path);
            x.start(0, 2, 0);
            x.run(9);
            due("15 deleted", thread(x, 0), "0 0 " + (MIN + path) + " 0 0");
            due("15 is 0", x.resource(path), 0);
        }
        TenantHost x = null;
        for (int path = 0; path < 84; path++) {
            if (path % 28 == 0) x = allWritten();
            due("15 counts", deploy(x, 0, "FUNC 1; GUARD 3 " + path + "; RETURN"), 0);
            due("15 count of " + path, ends(x, 0), "0 " + (path < 4 ? 20 : path < 20 ? 4 : 0));
        }
        for (int path = 0; path < 84; path++) {
            x = host(16, "FUNC 1; PUSH 3; GUARD 1 " + path + "; GUARD 3 0; PUSH 100; MUL; GUARD 3 6; ADD; RETURN");
            x.grant(0, 15, 509);
            String name = spelled(path);
            int want = (name.matches("0.+") ? 100 : 0) + (name.matches("02.+") ? 1 : 0);
            due("15 behind " + name, ends(x, 0), "0 " + want);
        }
        for (int bad : new int[] {-1, 84, MIN, MAX}) due("15 no path " + bad, x.resource(bad), 0);
    }

    /** A host whose paths all have the resource -1: a bundle has room for writing a third of them. */
    private static TenantHost allWritten() {
        TenantHost x = new TenantHost(16);
        x.grant(0, 15, 509);
        for (int from = 0; from < 84; from += 28) {
            StringBuilder text = new StringBuilder("FUNC 1");
            for (int p = from; p < from + 28; p++) text.append("; PUSH -1; GUARD 1 ").append(p);
            due("15 writes", deploy(x, 0, text + "; PUSH 0; RETURN"), 0);
            due("15 all written", ends(x, 0), "0 0");
        }
        return x;
    }

    private static void promise16Audit() {
        TenantHost x = host(16, "FUNC 1; GUARD 0 83; RETURN", "FUNC 1; LOAD 0; GUARD 1 40; PUSH 0; RETURN",
            "FUNC 1; GUARD 2 4; RETURN", "FUNC 1; GUARD 3 0; RETURN; FUNC 1; LOAD 0; SEND 0; ADD; RETURN");
        x.grant(1, 2, 509);
        x.grant(3, 15, 509);
        x.capability(3, 0, 0, 0);
        int[] tenants = {0, 1, 2, 3};
        int[] want = {83, 40 + 128 + 512 + 2048, 4 + 256 + 1024, 384 + 1536 + 2048};
        for (int i = 0; i < 4; i++) {
            x.start(tenants[i], 0, 0);
            x.run(9);
            for (int k = 0; k <= i; k++) due("16 note " + k, x.audit(k), want[i - k]);
            for (int k = i + 1; k < 8; k++) due("16 none " + k, x.audit(k), -1);
        }
        x.start(3, 1, 0);
        x.run(20);
        due("16 the top frame's tenant", x.audit(0), 83);
        x.grant(0, 1, 509);
        x.start(3, 1, 0);
        x.run(20);
        due("16 allowed", x.audit(0), 83 + 2048);
        for (int i = 0; i < 3; i++) {
            x.start(1, 0, 0);
            x.run(9);
        }
        int[] all = {want[1], want[1], want[1], 83 + 2048, 83, want[3], want[2], want[1]};
        for (int k = 0; k < 8; k++) due("16 the latest eight " + k, x.audit(k), all[k]);
        for (int bad : new int[] {-1, 8, 9, MIN, MAX}) due("16 no note " + bad, x.audit(bad), -1);
        x.limits(0, 0, 0, 3);
        x.start(0, 0, 0);
        x.run(9);
        due("16 not executed, not noted", x.audit(0), want[1]);
    }

    private static void promise17Order() {
        TenantHost x = host(16, LOOP);
        x.start(0, 0, 0);
        due("17 FORM first", deploy(x, 1, "FUNC 1; DROP; WHAT"), 1);
        due("17 its place", x.place(), 2);
        add(x, "FUNC 1; WHAT");
        due("17 REFUSED before FORM", x.deploy(4), -1);
        due("17 REFUSED, place", x.place(), -1);
        due("17 pending still there", x.deploy(1), 1);
        due("17 place 1", x.place(), 1);
        due("17 BUSY before FORM", deploy(x, 0, "FUNC 1; WHAT"), 3);
        due("17 BUSY, place", x.place(), -1);
        due("17 STACK", deploy(x, 1, "FUNC 1; YIELD; DROP"), 2);
        due("17 place 2", x.place(), 2);
        due("17 BUSY with an empty bundle", x.deploy(0), 3);
        due("17 BUSY, place again", x.place(), -1);
        due("17 REFUSED with an empty bundle", x.deploy(-1), -1);
        due("17 BUSY before STACK", deploy(x, 0, "FUNC 1; DROP"), 3);
        due("17 no place", x.place(), -1);
    }
}
