/** For each sentence of the document's "Terms" that names a boundary case, a test of its own. */
public final class TermBoundaryTests extends HostTest {
    private static final int[] OUTSIDE_0_TO_3 = {-1, 4, 5, MIN, MAX};
    private static final int ANYTHING = 5 + 8 * 7 + 64 * 7;
    private static final String OK = "0 at -1";

    public static void main(String[] args) {
        grantTerms();
        codeTerms();
        bundleTerms();
        threadTerms();
        stepTerms();
        endTerms();
        finish("TermBoundaryTests");
    }

    private static void grantTerms() {
        sentence("TENANTS 0..3.", TermBoundaryTests::tenants);
        sentence("A PATH has one to three segments 0..3; its number: s; 4 + 4 s + t; 20 + 16 s + 4 t + u (0..83).",
            TermBoundaryTests::pathNumbers);
        sentence("ACTIONS 0 read, 1 write, 2 delete, 3 count.", TermBoundaryTests::actions);
        sentence("a PATTERN of one to three segments, each 0..3 or * (any one segment)", TermBoundaryTests::starPatterns);
        sentence("or, only as the last, - (one or more segments, any)", TermBoundaryTests::restPatterns);
        sentence("It IMPLIES an action on a path if the action is in the set and the pattern stands for the path.",
            TermBoundaryTests::implies);
        sentence("A tenant MAY do that if one of its grants implies it.", TermBoundaryTests::oneOfItsGrants);
        sentence("Each path has a RESOURCE, an int, 0 at first.", TermBoundaryTests::resources);
    }

    private static void codeTerms() {
        sentence("A bundle is a row of at most 64 instructions (op, a, b), numbered 0, 1, ..", TermBoundaryTests::longestBundle);
        sentence("a FUNCTION begins with each FUNC and goes up to the next one; they are numbered 0, 1, ..",
            TermBoundaryTests::functions);
        sentence("1..4 locals: local 0 is the argument, the others are 0", TermBoundaryTests::locals);
        sentence("5 ADD 6 SUB 7 MUL (wrapping)", TermBoundaryTests::wrapping);
        sentence("1 if the lower of the two top values is less than the top, else 0", TermBoundaryTests::less);
        sentence("to instruction a of the same function, not its FUNC", TermBoundaryTests::jumpTargets);
        sentence("ZERO pops a value and jumps if it is 0", TermBoundaryTests::zero);
        sentence("slot a (0..3) of the tenant: pops an argument, pushes a result, then a code (0: well)",
            TermBoundaryTests::sendSlots);
        sentence("pops an argument; a new thread runs function a with it: pushes its number, or -1",
            TermBoundaryTests::spawnNumbers);
        sentence("delete pushes it and makes it 0", TermBoundaryTests::delete);
        sentence("count pushes how many paths that go on behind path b have a resource other than 0",
            TermBoundaryTests::count);
        sentence("pops n: that many units more are held, pushes 1; or pushes 0 if n is below 0 or they would be more"
            + " than the tenant's limit", TermBoundaryTests::alloc);
        sentence("pops n: so many less (at least 0; nothing if n is below 0)", TermBoundaryTests::free);
        sentence("pops v: the exception 10 + (v & 15)", TermBoundaryTests::throwCodes);
    }

    private static void bundleTerms() {
        sentence("A bundle is WELL FORMED if it is not empty", TermBoundaryTests::emptyBundle);
        sentence("the first instruction is a FUNC", TermBoundaryTests::firstInstruction);
        sentence("there are at most 4", TermBoundaryTests::atMostFourFunctions);
        sentence("ops are 0..23", TermBoundaryTests::opRange);
        sentence("locals of the function around", TermBoundaryTests::localOperands);
        sentence("functions that are there", TermBoundaryTests::functionOperands);
        sentence("a of GUARD 0..3, b 0..83", TermBoundaryTests::guardOperands);
        sentence("each FUNC has the height 0", TermBoundaryTests::functionHeight);
        sentence("h is not less than the values that it pops (DUP pops one and pushes two, SWAP pops and pushes two)",
            TermBoundaryTests::tooLow);
        sentence("nor h - popped + pushed above 8", TermBoundaryTests::tooHigh);
        sentence("what may follow it has the height h - popped + pushed: the next instruction, but not behind JUMP,"
            + " RETURN, THROW; and the target of a jump", TermBoundaryTests::whatFollows);
        sentence("no instruction has two heights", TermBoundaryTests::twoHeights);
        sentence("none with a height is followed by a FUNC or the bundle's end, but behind JUMP, RETURN, THROW",
            TermBoundaryTests::runningOut);
    }

    private static void threadTerms() {
        sentence("THREADS 0..5 have FRAMES, each with a tenant, a function, its locals and values",
            TermBoundaryTests::threadNumbers);
        sentence("A thread inherits a set of tenants (none if it is begun by start()).", TermBoundaryTests::inheritsNone);
        sentence("the tenants of the frames from the top down to the first privileged one, that one too",
            TermBoundaryTests::downToPrivileged);
        sentence("if there is none, of all frames and the inherited ones", TermBoundaryTests::allFramesAndInherited);
        sentence("A thread that a SPAWN begins inherits the domains of the spawning one.", TermBoundaryTests::inheritsDomains);
        sentence("GUARD is allowed if each of the domains MAY do it; else the exception ACCESS 1.", TermBoundaryTests::eachDomain);
        sentence("Every GUARD that is executed is noted in the AUDIT.", TermBoundaryTests::everyGuard);
    }

    private static void stepTerms() {
        sentence("first, if its top frame's tenant is KILLED and the instruction is a POLL", TermBoundaryTests::killedAtPolls);
        sentence("a JUMP or ZERO to an instruction that is not behind it", TermBoundaryTests::jumpPolls);
        sentence("Else, if the tenant has used up its ticks: QUOTA 2.", TermBoundaryTests::quota);
        sentence("Else a tick of the top frame's tenant is used and the instruction is executed. (FUNC does nothing.)",
            TermBoundaryTests::ticks);
        sentence("CALL, PRIV and SEND, if the thread has 6 frames: the exception DEPTH 6.", TermBoundaryTests::depth);
        sentence("SEND, before that: if the slot is empty, the result 0 and code 5", TermBoundaryTests::emptySlot);
        sentence("if its capability is revoked, 0 and 4", TermBoundaryTests::revokedSlot);
        sentence("if the tenant that it leads to is killed or has not that function, 0 and 3", TermBoundaryTests::noFunction);
        sentence("Else a frame of that tenant.", TermBoundaryTests::sentFrame);
        sentence("SPAWN gives -1 if the tenant has as many threads (begun by its SPAWNs or for it by start(), not ended)"
            + " as its limit", TermBoundaryTests::spawnLimit);
        sentence("or all six are in use", TermBoundaryTests::spawnSix);
        sentence("Else the least number that is free.", TermBoundaryTests::spawnLeast);
    }

    private static void endTerms() {
        sentence("An EXCEPTION takes frames away from the top on, up to and with the first that a SEND made: the SEND's"
            + " result is 0 and its code that of the exception.", TermBoundaryTests::exceptionFrames);
        sentence("If there is none, the thread ends with that code.", TermBoundaryTests::exceptionEnds);
        sentence("A RETURN of the last frame ends it with what it returns and code 0.", TermBoundaryTests::lastReturn);
        sentence("A thread that has ended is free, its answers stay until its number is used again.",
            TermBoundaryTests::answersStay);
        sentence("it goes on to the next (by number, 0 behind 5) that has not ended", TermBoundaryTests::nextTurn);
        sentence("after QUANTUM steps, a YIELD, or its end", TermBoundaryTests::endOfTurn);
        sentence("The first thread that is begun while none runs has the turn, with a whole quantum.",
            TermBoundaryTests::firstTurn);
    }

    private static int pattern(int first, int second, int third) {
        return first + 8 * second + 64 * third;
    }

    /** Whether tenant 0 may read a path with one grant of a pattern. */
    private static boolean reads(int pattern, int path) {
        TenantHost x = host(4, "FUNC 1; GUARD 0 " + path + "; RETURN");
        due("grant " + pattern, x.grant(0, 1, pattern), 0);
        String end = ends(x, 0);
        due("ends well or with ACCESS", end.equals("0 0") || end.equals("1 0"), true);
        return end.equals("0 0");
    }

    private static int pathOf(int... segments) {
        if (segments.length == 1) return segments[0];
        if (segments.length == 2) return 4 + 4 * segments[0] + segments[1];
        return 20 + 16 * segments[0] + 4 * segments[1] + segments[2];
    }

    private static void tenants() {
        for (int t : OUTSIDE_0_TO_3) {
            TenantHost x = host(4, ECHO, ECHO, ECHO, ECHO);
            due("grant " + t, x.grant(t, 1, ANYTHING), -1);
            due("withdraw " + t, x.withdraw(t, 0), false);
            due("deploy " + t, deploy(x, t, ECHO), -1);
            due("limits " + t, x.limits(t, 1, 1, 1), false);
            due("capability of " + t, x.capability(t, 0, 0, 0), false);
            due("capability to " + t, x.capability(0, 0, t, 0), false);
            due("revoke " + t, x.revoke(t, 0), false);
            due("start " + t, x.start(t, 0, 0), -1);
            due("kill " + t, x.kill(t), false);
            due("tenant " + t, tenant(x, t), "-1 -1 -1 -1 -1 -1 -1");
        }
        for (int t = 0; t < 4; t++) {
            TenantHost x = new TenantHost(4);
            due("grant " + t, x.grant(t, 1, ANYTHING), 0);
            due("withdraw " + t, x.withdraw(t, 0), true);
            due("deploy " + t, deploy(x, t, ECHO), 0);
            due("limits " + t, x.limits(t, 9, 9, 9), true);
            due("capability of " + t, x.capability(t, 0, 3 - t, 0), true);
            due("revoke " + t, x.revoke(t, 0), true);
            due("start " + t, x.start(t, 0, 0), 0);
            due("kill " + t, x.kill(t), true);
            due("tenant " + t, tenant(x, t), "0 0 1 1 2 1 0");
        }
    }

    private static void pathNumbers() {
        for (int s = 0; s < 4; s++) {
            exactPath(s, pattern(s, 7, 7));
            for (int t = 0; t < 4; t++) {
                exactPath(4 + 4 * s + t, pattern(s, t, 7));
                for (int u = 0; u < 4; u++) exactPath(20 + 16 * s + 4 * t + u, pattern(s, t, u));
            }
        }
        for (int path : new int[] {-1, 84, MIN, MAX}) {
            due("GUARD of " + path, judged("FUNC 1; GUARD 0 " + path + "; RETURN"), "1 at 1");
        }
    }

    /** A pattern of numbers alone stands for one path and not for those beside it. */
    private static void exactPath(int path, int pattern) {
        due("path " + path, reads(pattern, path), true);
        if (path > 0) due("below " + path, reads(pattern, path - 1), false);
        if (path < 83) due("above " + path, reads(pattern, path + 1), false);
    }

    private static void actions() {
        String[] bodies = {"GUARD 0 9", "PUSH 6; GUARD 1 9; PUSH 0", "GUARD 2 9", "GUARD 3 9"};
        for (int given = 0; given < 4; given++) {
            for (int done = 0; done < 4; done++) {
                TenantHost x = host(16, "FUNC 1; " + bodies[done] + "; RETURN");
                x.grant(0, 1 << given, ANYTHING);
                due("granted " + given + ", done " + done, ends(x, 0), given == done ? "0 0" : "1 0");
            }
        }
        for (int action : OUTSIDE_0_TO_3) due("action " + action, judged("FUNC 1; GUARD " + action + " 9; RETURN"), "1 at 1");
        TenantHost x = host(16, "FUNC 1; PUSH 6; GUARD 1 1; GUARD 0 1; PUSH 8; GUARD 1 4; GUARD 3 0; GUARD 2 1; ADD; ADD;"
            + " RETURN");
        x.grant(0, 15, ANYTHING);
        due("read 6, counted 1, deleted 6", ends(x, 0), "0 13");
        due("deleted", x.resource(1), 0);
    }

    private static void starPatterns() {
        for (int s = 0; s < 4; s++) {
            due("* of a segment", reads(pattern(4, 7, 7), pathOf(s)), true);
            due("* of two", reads(pattern(4, 7, 7), pathOf(s, 0)), false);
            due("* of three", reads(pattern(4, 7, 7), pathOf(s, 3, 3)), false);
            due("2 * of 2", reads(pattern(2, 4, 7), pathOf(2)), false);
            due("2 * of 2 s", reads(pattern(2, 4, 7), pathOf(2, s)), true);
            due("2 * of s 2", reads(pattern(2, 4, 7), pathOf(s, 2)), s == 2);
            due("2 * of 2 s 0", reads(pattern(2, 4, 7), pathOf(2, s, 0)), false);
            due("* 1 of s 1", reads(pattern(4, 1, 7), pathOf(s, 1)), true);
            due("* 1 of 1 s", reads(pattern(4, 1, 7), pathOf(1, s)), s == 1);
            due("3 * 0 of 3 s 0", reads(pattern(3, 4, 0), pathOf(3, s, 0)), true);
            due("3 * 0 of 3 0 s", reads(pattern(3, 4, 0), pathOf(3, 0, s)), s == 0);
            due("* * * of s s", reads(pattern(4, 4, 4), pathOf(s, s)), false);
            due("* * * of s s s", reads(pattern(4, 4, 4), pathOf(s, s, s)), true);
        }
    }

    private static void restPatterns() {
        for (int s = 0; s < 4; s++) {
            due("- of one", reads(pattern(5, 7, 7), pathOf(s)), true);
            due("- of two", reads(pattern(5, 7, 7), pathOf(s, 3)), true);
            due("- of three", reads(pattern(5, 7, 7), pathOf(s, 0, 3)), true);
            due("1 - of s", reads(pattern(1, 5, 7), pathOf(s)), false);
            due("1 - of s 2", reads(pattern(1, 5, 7), pathOf(s, 2)), s == 1);
            due("1 - of s 2 0", reads(pattern(1, 5, 7), pathOf(s, 2, 0)), s == 1);
            due("* 2 - of s 2", reads(pattern(4, 2, 5), pathOf(s, 2)), false);
            due("* 2 - of s 2 3", reads(pattern(4, 2, 5), pathOf(s, 2, 3)), true);
            due("* 2 - of 2 s 3", reads(pattern(4, 2, 5), pathOf(2, s, 3)), s == 2);
        }
        TenantHost x = new TenantHost(4);
        for (int digit = 0; digit < 7; digit++) {
            due("- before " + digit, x.grant(0, 1, pattern(5, digit, 7)), -1);
            due("- before two", x.grant(0, 1, pattern(5, digit, 0)), -1);
            due("0 - before " + digit, x.grant(0, 1, pattern(0, 5, digit)), -1);
            due("- 7 before " + digit, x.grant(0, 1, pattern(5, 7, digit)), -1);
        }
        due("none was given", x.tenant(0, 6), 0);
    }

    private static void implies() {
        TenantHost x = host(16, "FUNC 1; GUARD 0 7; RETURN");
        x.grant(0, 14, ANYTHING);
        due("not in the set", ends(x, 0), "1 0");
        x.grant(0, 1, pattern(0, 4, 4));
        due("in the set, but the pattern does not stand for it", ends(x, 0), "1 0");
        x.grant(0, 1, pattern(0, 3, 7));
        due("both", ends(x, 0), "0 0");
    }

    private static void oneOfItsGrants() {
        TenantHost x = host(16, "FUNC 1; GUARD 0 7; RETURN");
        due("no grant", ends(x, 0), "1 0");
        for (int t = 1; t < 4; t++) for (int k = 0; k < 6; k++) x.grant(t, 15, ANYTHING);
        due("grants of others", ends(x, 0), "1 0");
        for (int k = 0; k < 5; k++) x.grant(0, 15, pattern(k % 4, 7, 7));
        due("five others", ends(x, 0), "1 0");
        due("a sixth", x.grant(0, 1, pattern(0, 3, 7)), 5);
        due("the sixth alone", ends(x, 0), "0 0");
        x = host(16, "FUNC 1; GUARD 0 7; RETURN");
        x.grant(0, 1, ANYTHING);
        for (int k = 1; k < 6; k++) x.grant(0, 15, pattern(3, 7, 7));
        due("the first alone", ends(x, 0), "0 0");
    }

    private static void resources() {
        TenantHost x = new TenantHost(4);
        for (int path = 0; path < 84; path++) due("path " + path, x.resource(path), 0);
        for (int path : new int[] {0, 3, 4, 19, 20, 83}) {
            for (int value : new int[] {MIN, -1, 1, MAX}) {
                x = host(16, "FUNC 1; LOAD 0; GUARD 1 " + path + "; GUARD 0 " + path + "; RETURN");
                x.grant(0, 3, ANYTHING);
                due("read of " + path, ends(x, value), "0 " + value);
                due("resource of " + path, x.resource(path), value);
            }
        }
    }

    private static void longestBundle() {
        due("64 instructions", judged(bundle(64, "FUNC 1", "YIELD", "JUMP 63")), OK);
        due("wrong is the last of 64", judged(bundle(64, "FUNC 1", "YIELD", "WHAT")), "1 at 63");
        due("no jump behind 63", judged(bundle(64, "FUNC 1", "YIELD", "JUMP 64")), "1 at 63");
        TenantHost x = new TenantHost(16);
        add(x, bundle(64, "FUNC 1", "YIELD", "JUMP 1"));
        due("a 65th", x.code(99, 99, 99), -1);
        due("the 64 are sound", x.deploy(0), 0);
        x.start(0, 0, 0);
        due("and run round", x.run(200), 200);
        x = host(16, bundle(64, "FUNC 1", "YIELD", "JUMP 63"), ECHO);
        due("the last of 64 and another tenant's first", ends(x, 1, 0, 8), "0 8");
        due("one instruction", judged("FUNC 1"), "2 at 0");
    }

    private static void functions() {
        String four = "FUNC 1; PUSH 10; RETURN; FUNC 1; PUSH 11; RETURN; FUNC 1; PUSH 12; RETURN; FUNC 1; PUSH 13; RETURN";
        TenantHost x = host(16, four);
        due("four", x.tenant(0, 5), 4);
        for (int f = 0; f < 4; f++) due("function " + f, ends(x, 0, f, 0), "0 " + (10 + f));
        due("no function 4", x.start(0, 4, 0), -1);
        due("no function -1", x.start(0, -1, 0), -1);
        due("the last of the function", judged("FUNC 1; JUMP 2; JUMP 1; FUNC 1; JUMP 4"), OK);
        due("the next FUNC", judged("FUNC 1; JUMP 3; JUMP 1; FUNC 1; JUMP 4"), "1 at 1");
        due("behind the next FUNC", judged("FUNC 1; JUMP 4; JUMP 1; FUNC 1; JUMP 4"), "1 at 1");
        due("before its FUNC", judged("FUNC 1; JUMP 1; JUMP 1; FUNC 1; JUMP 2"), "1 at 4");
    }

    private static void locals() {
        for (int n = 1; n <= 4; n++) {
            due(n + " locals", judged("FUNC " + n + "; LOAD " + (n - 1) + "; RETURN"), OK);
            due(n + " locals, LOAD", judged("FUNC " + n + "; LOAD " + n + "; RETURN"), "1 at 1");
            due(n + " locals, STORE", judged("FUNC " + n + "; PUSH 1; STORE " + n + "; JUMP 1"), "1 at 2");
            for (int local = 0; local < n; local++) {
                String text = "FUNC " + n + "; LOAD " + local + "; RETURN";
                due("local " + local, endsAlone(text, MIN), "0 " + (local == 0 ? MIN : 0));
                due("local " + local, endsAlone(text, MAX), "0 " + (local == 0 ? MAX : 0));
            }
        }
        for (int n : new int[] {0, 5, -1, MIN, MAX}) due(n + " locals", judged("FUNC " + n + "; PUSH 1; RETURN"), "1 at 0");
        String used = "FUNC 4; LOAD 1; LOAD 2; LOAD 3; ADD; ADD; PUSH 5; STORE 1; PUSH 6; STORE 2; PUSH 7; STORE 3; RETURN";
        TenantHost x = host(16, used);
        due("a first time", ends(x, 9), "0 0");
        due("0 again in a new thread", ends(x, 9), "0 0");
    }

    private static String computes(int lower, String op, int top) {
        return endsAlone("FUNC 1; PUSH " + lower + "; PUSH " + top + "; " + op + "; RETURN", 0);
    }

    private static void wrapping() {
        int[] edges = {MIN, MIN + 1, -65536, -2, -1, 0, 1, 2, 65536, MAX - 1, MAX};
        for (int lower : edges) {
            for (int top : edges) {
                due(lower + " ADD " + top, computes(lower, "ADD", top), "0 " + (lower + top));
                due(lower + " SUB " + top, computes(lower, "SUB", top), "0 " + (lower - top));
                due(lower + " MUL " + top, computes(lower, "MUL", top), "0 " + lower * top);
            }
        }
    }

    private static void less() {
        int[] edges = {MIN, MIN + 1, -1, 0, 1, MAX - 1, MAX};
        for (int i = 0; i < edges.length; i++) {
            for (int j = 0; j < edges.length; j++) {
                due(edges[i] + " LESS " + edges[j], computes(edges[i], "LESS", edges[j]), i < j ? "0 1" : "0 0");
                due(edges[i] + " SAME " + edges[j], computes(edges[i], "SAME", edges[j]), i == j ? "0 1" : "0 0");
            }
        }
    }

    private static void jumpTargets() {
        for (String op : new String[] {"JUMP", "ZERO"}) {
            String pops = op.equals("ZERO") ? "PUSH 1" : "YIELD";
            // the second function: 3 FUNC, 4, 5 the jump, 6 YIELD, 7 JUMP 4; then a third from 8 on
            String before = "FUNC 1; PUSH 1; RETURN; FUNC 1; " + pops + "; " + op + " ";
            String behind = "; YIELD; JUMP 4; FUNC 1; PUSH 1; RETURN";
            for (int target = -1; target < 13; target++) {
                boolean inside = target >= 4 && target <= 7;
                boolean itself = target == 5 && op.equals("ZERO");
                String want = itself ? "2 at 5" : inside ? OK : "1 at 5";
                due(op + " " + target, judged(before + target + behind), want);
            }
            due(op + " least", judged(before + MIN + behind), "1 at 5");
            due(op + " greatest", judged(before + MAX + behind), "1 at 5");
            // in the last function the bundle's end bounds it
            due(op + " the last", judged("FUNC 1; " + pops + "; " + op + " 3; JUMP 1"), OK);
            due(op + " the end", judged("FUNC 1; " + pops + "; " + op + " 4; JUMP 1"), "1 at 2");
            due(op + " the only FUNC", judged("FUNC 1; " + pops + "; " + op + " 0; JUMP 1"), "1 at 2");
            TenantHost x = host(4, bundle(40, "FUNC 1", "YIELD", "JUMP 1"));
            due(op + " to what an older bundle had", deploy(x, 0, "FUNC 1; " + pops + "; " + op + " 9; JUMP 1"), 1);
            due(op + " place", x.place(), 2);
        }
    }

    private static void zero() {
        String text = "FUNC 1; PUSH 5; LOAD 0; ZERO 6; PUSH 7; ADD; RETURN";
        due("0 jumps", endsAlone(text, 0), "0 5");
        for (int value : new int[] {1, -1, MIN, MAX, 65536}) due(value + " does not", endsAlone(text, value), "0 12");
    }

    private static void sendSlots() {
        for (int s = 0; s < 4; s++) {
            TenantHost x = host(16, "FUNC 1; LOAD 0; SEND " + s + "; PUSH 1000; MUL; ADD; RETURN",
                "FUNC 1; LOAD 0; PUSH 1; ADD; RETURN");
            for (int other = 0; other < 4; other++) if (other != s) x.capability(0, other, 1, 0);
            due("slot " + s + " is empty", ends(x, 8), "0 5000");
            x.capability(0, s, 1, 0);
            due("slot " + s, ends(x, 8), "0 9");
        }
        for (int s : OUTSIDE_0_TO_3) due("slot " + s, judged("FUNC 1; PUSH 1; SEND " + s + "; ADD; RETURN"), "1 at 2");
        TenantHost x = host(16, "FUNC 1; LOAD 0; SEND 0; DROP; RETURN", ECHO);
        x.capability(1, 0, 1, 0);
        due("the slot of another tenant", ends(x, 8), "0 0");
        x.capability(0, 0, 1, 0);
        due("a result of -1 is a result", ends(x, -1), "0 -1");
    }

    private static void spawnNumbers() {
        TenantHost x = host(16, "FUNC 1; LOAD 0; SPAWN 1; RETURN; FUNC 1; LOAD 0; RETURN");
        due("its number", ends(x, MIN), "0 1");
        due("its argument", thread(x, 1), "0 0 " + MIN + " 0 0");
        x.limits(0, 1000, 0, 1);
        due("-1", ends(x, 4), "0 -1");
        due("none was begun", thread(x, 1), "0 0 " + MIN + " 0 0");
        due("no function 2", judged("FUNC 1; LOAD 0; SPAWN 2; RETURN; FUNC 1; LOAD 0; RETURN"), "1 at 2");
    }

    private static void delete() {
        TenantHost x = host(16, "FUNC 1; LOAD 0; GUARD 1 9; GUARD 2 9; RETURN; FUNC 1; GUARD 2 9; RETURN");
        x.grant(0, 6, ANYTHING);
        for (int value : new int[] {MIN, -1, 0, 1, MAX}) {
            due("deleted " + value, ends(x, value), "0 " + value);
            due("made 0", x.resource(9), 0);
            due("a second time", ends(x, 0, 1, 0), "0 0");
        }
    }

    private static void count() {
        for (int at = 0; at < 84; at++) {
            due("none behind " + at, counts(at, -1), "0 0");
        }
        int[][] behind = {{0, 0, 0}, {0, 4, 1}, {0, 7, 1}, {0, 8, 0}, {0, 20, 1}, {0, 35, 1}, {0, 36, 0}, {0, 1, 0},
            {3, 16, 1}, {3, 15, 0}, {3, 19, 1}, {3, 68, 1}, {3, 67, 0}, {3, 83, 1}, {3, 3, 0}, {4, 20, 1}, {4, 23, 1},
            {4, 24, 0}, {4, 4, 0}, {4, 0, 0}, {4, 5, 0}, {19, 80, 1}, {19, 79, 0}, {19, 83, 1}, {20, 20, 0}, {20, 4, 0},
            {83, 83, 0}, {83, 19, 0}, {83, 3, 0}, {5, 24, 1}, {5, 27, 1}, {5, 28, 0}, {5, 23, 0}, {1, 0, 0}, {1, 2, 0},
            {1, 7, 0}, {1, 8, 1}, {1, 11, 1}, {1, 12, 0}, {1, 35, 0}, {1, 36, 1}, {1, 51, 1}, {1, 52, 0}};
        for (int[] row : behind) due("of " + row[1] + " behind " + row[0], counts(row[0], row[1]), "0 " + row[2]);
        StringBuilder one = new StringBuilder("FUNC 1");
        for (int path = 0; path < 28; path++) one.append("; PUSH -1; GUARD 1 ").append(path);
        TenantHost x = host(16, one + "; PUSH 0; RETURN");
        x.grant(0, 15, ANYTHING);
        due("written", ends(x, 0), "0 0");
        due("next", deploy(x, 0, "FUNC 1; GUARD 3 0; PUSH 100; MUL; GUARD 3 4; ADD; RETURN"), 0);
        due("4 with two segments and 8 with three, 4 of them behind 0 0", ends(x, 0), "0 1204");
    }

    /** What a count of a path answers when one path, if any, has a resource below 0. */
    private static String counts(int at, int written) {
        String write = written < 0 ? "" : "PUSH " + MIN + "; GUARD 1 " + written + "; ";
        TenantHost x = host(16, "FUNC 1; " + write + "GUARD 3 " + at + "; RETURN");
        x.grant(0, 15, ANYTHING);
        return ends(x, 0);
    }

    private static void alloc() {
        TenantHost x = host(16, "FUNC 1; LOAD 0; ALLOC; RETURN");
        int[][] table = {{-1, 0, 0}, {MIN, 0, 0}, {101, 0, 0}, {MAX, 0, 0}, {0, 1, 0}, {99, 1, 99}, {2, 0, 99},
            {-99, 0, 99}, {1, 1, 100}, {1, 0, 100}, {MAX, 0, 100}, {MAX - 99, 0, 100}, {0, 1, 100}};
        for (int[] row : table) {
            due("ALLOC " + row[0], ends(x, row[0]), "0 " + row[1]);
            due("held after " + row[0], x.tenant(0, 1), row[2]);
        }
        x.limits(0, 1000, 99, 3);
        due("0 more, but held is above the limit", ends(x, 0), "0 0");
        x.limits(0, 1000, 1000000, 3);
        due("up to the greatest limit", ends(x, 999900), "0 1");
        due("none above it", ends(x, 1), "0 0");
        x = host(16, "FUNC 1; LOAD 0; ALLOC; RETURN", "FUNC 1; LOAD 0; ALLOC; RETURN");
        due("100 of tenant 0", ends(x, 0, 0, 100), "0 1");
        due("100 of tenant 1", ends(x, 1, 0, 100), "0 1");
        x.limits(0, 1000, 0, 3);
        due("a limit of 0", deploy(x, 0, "FUNC 1; LOAD 0; ALLOC; RETURN"), 0);
        due("1 is more", ends(x, 1), "0 0");
        due("0 is not", ends(x, 0), "0 1");
    }

    private static void free() {
        int[][] table = {{0, 50}, {-1, 50}, {MIN, 50}, {1, 49}, {49, 1}, {50, 0}, {51, 0}, {MAX, 0}};
        for (int[] row : table) {
            TenantHost x = host(16, "FUNC 1; PUSH 50; ALLOC; DROP; LOAD 0; FREE; PUSH 3; RETURN");
            due("FREE " + row[0], ends(x, row[0]), "0 3");
            due("held after FREE " + row[0], x.tenant(0, 1), row[1]);
        }
        due("FREE of none", endsAlone("FUNC 1; PUSH 1; FREE; PUSH 100; ALLOC; RETURN", 0), "0 1");
    }

    private static void throwCodes() {
        int[][] table = {{0, 10}, {1, 11}, {15, 25}, {16, 10}, {31, 25}, {-1, 25}, {-16, 10}, {-15, 11}, {MIN, 10}, {MAX, 25}};
        for (int[] row : table) due("THROW " + row[0], endsAlone("FUNC 1; LOAD 0; THROW", row[0]), row[1] + " 0");
    }

    private static void emptyBundle() {
        TenantHost x = new TenantHost(4);
        due("empty", x.deploy(0), 1);
        due("place", x.place(), 0);
        due("no bundle", x.tenant(0, 4), 0);
        due("not empty", deploy(x, 0, "FUNC 1; JUMP 1"), 0);
        due("empty again", x.deploy(0), 1);
        due("place again", x.place(), 0);
        due("the bundle stays", x.tenant(0, 4), 1);
    }

    private static void firstInstruction() {
        for (int op = -1; op < 25; op++) {
            TenantHost x = new TenantHost(4);
            x.code(op, 1, 1);
            add(x, "FUNC 1; JUMP 2");
            due("op " + op, x.deploy(0), op == 0 ? 2 : 1);
            due("place with op " + op, x.place(), 0);
        }
    }

    private static void atMostFourFunctions() {
        String one = "FUNC 1; PUSH 1; RETURN";
        due("four", judged(one + "; " + one + "; " + one + "; " + one), OK);
        due("five", judged(one + "; " + one + "; " + one + "; " + one + "; " + one), "1 at 12");
        due("six", judged("FUNC 1; FUNC 1; FUNC 1; FUNC 1; FUNC 1; FUNC 1"), "1 at 4");
        due("something wrong before the fifth", judged("FUNC 1; FUNC 1; WHAT; FUNC 1; FUNC 1; FUNC 1"), "1 at 2");
        due("something wrong behind the fifth", judged("FUNC 1; FUNC 1; FUNC 1; FUNC 1; FUNC 1; WHAT"), "1 at 4");
        due("the fourth has wrong locals", judged("FUNC 1; FUNC 1; FUNC 1; FUNC 9; FUNC 1"), "1 at 3");
    }

    private static void opRange() {
        for (int op : new int[] {MIN, -1, 24, 25, 64, 256, MAX}) {
            TenantHost x = new TenantHost(4);
            add(x, "FUNC 1; YIELD");
            x.code(op, 1, 1);
            add(x, "JUMP 1");
            due("op " + op, x.deploy(0), 1);
            due("place of op " + op, x.place(), 2);
        }
        due("op 23", judged("FUNC 1; YIELD; JUMP 1"), OK);
        due("op 0", judged("FUNC 1; JUMP 1"), OK);
        TenantHost x = new TenantHost(4);
        add(x, "FUNC 1; JUMP 1");
        x.code(24, 0, 0);
        due("where it is never reached", x.deploy(0), 1);
    }

    private static void localOperands() {
        for (String op : new String[] {"LOAD", "STORE"}) {
            String value = op.equals("STORE") ? "; PUSH 1; " : "; YIELD; ";
            String end = op.equals("STORE") ? "; JUMP 1" : "; DROP; JUMP 1";
            for (int a : new int[] {-1, 3, 4, MIN, MAX}) {
                due(op + " " + a, judged("FUNC 3" + value + op + " " + a + end), "1 at 2");
            }
            for (int a = 0; a < 3; a++) due(op + " " + a, judged("FUNC 3" + value + op + " " + a + end), OK);
            due(op + " of the function before", judged("FUNC 4; JUMP 1; FUNC 1; PUSH 1; " + op + " 1; PUSH 1; RETURN"), "1 at 4");
            due(op + " of the function behind", judged("FUNC 1; PUSH 1; " + op + " 1; PUSH 1; RETURN; FUNC 4; JUMP 6"), "1 at 2");
        }
    }

    private static void functionOperands() {
        for (String op : new String[] {"CALL", "PRIV", "SPAWN"}) {
            for (int n = 1; n <= 4; n++) {
                StringBuilder rest = new StringBuilder("; RETURN");
                for (int f = 1; f < n; f++) rest.append("; FUNC 1; PUSH 1; RETURN");
                String before = "FUNC 1; LOAD 0; " + op + " ";
                for (int a = 0; a < n; a++) due(op + " " + a + " of " + n, judged(before + a + rest), OK);
                for (int a : new int[] {-1, n, n + 1, MIN, MAX}) {
                    due(op + " " + a + " of " + n, judged(before + a + rest), "1 at 2");
                }
            }
            TenantHost x = host(4, "FUNC 1; JUMP 1; FUNC 1; JUMP 3");
            due(op + " of what an older bundle had", deploy(x, 0, "FUNC 1; LOAD 0; " + op + " 1; RETURN"), 1);
            due(op + " place", x.place(), 2);
        }
    }

    private static void guardOperands() {
        for (int a = 0; a < 4; a++) {
            String rest = a == 1 ? "; PUSH 1; RETURN" : "; RETURN";
            for (int b : new int[] {0, 83}) due(a + " " + b, judged("FUNC 1; PUSH 1; GUARD " + a + " " + b + rest), OK);
            for (int b : new int[] {-1, 84, 128, MIN, MAX}) {
                due(a + " " + b, judged("FUNC 1; PUSH 1; GUARD " + a + " " + b + rest), "1 at 2");
            }
        }
        for (int a : OUTSIDE_0_TO_3) due("action " + a, judged("FUNC 1; PUSH 1; GUARD " + a + " 0; RETURN"), "1 at 2");
        due("operands that nothing is said of", judged("FUNC 1 -1; PUSH " + MIN + " -1; DUP -1 -1; ADD 99 99; SWAP 7 7"),
            "2 at 4");
    }

    private static void functionHeight() {
        due("a value in each", judged("FUNC 1; PUSH 1; RETURN; FUNC 1; PUSH 1; RETURN"), OK);
        due("none from the one before", judged("FUNC 1; PUSH 1; PUSH 1; RETURN; FUNC 1; RETURN"), "2 at 5");
        due("none in the first", judged("FUNC 1; RETURN"), "2 at 1");
        due("one that nothing calls", judged("FUNC 1; PUSH 1; RETURN; FUNC 1; DROP; JUMP 4"), "2 at 4");
        due("eight in each", judged(pushes(8) + "; RETURN; " + pushes(8) + "; RETURN"), OK);
        due("a later one at the end", judged("FUNC 1; PUSH 1; RETURN; FUNC 1"), "2 at 3");
    }

    /** What each instruction pops and pushes, beside those that nothing may follow. */
    private static final String[] TABLE = {"PUSH 0 1", "DUP 1 2", "DROP 1 0", "SWAP 2 2", "ADD 2 1", "SUB 2 1",
        "MUL 2 1", "LESS 2 1", "SAME 2 1", "LOAD 0 1", "STORE 1 0", "ZERO_NEXT 1 0", "CALL 1 1", "PRIV 1 1", "SEND 1 2",
        "SPAWN 1 1", "GUARD 0 1", "GUARD_1 1 0", "GUARD_2 0 1", "GUARD_3 0 1", "ALLOC 1 1", "FREE 1 0", "YIELD 0 0"};

    /** An instruction of the table at a place, its jump leading to the next one. */
    private static String spelled(String row, int at) {
        return row.split(" ")[0].replace('_', ' ').replace("NEXT", "" + (at + 1));
    }

    private static void tooLow() {
        for (String row : TABLE) {
            int pops = Integer.parseInt(row.split(" ")[1]);
            int grows = Integer.parseInt(row.split(" ")[2]) - pops;
            for (int h = 0; h <= 3; h++) {
                StringBuilder text = new StringBuilder(pushes(h) + "; " + spelled(row, h + 1));
                // taking all values away again tells the height behind it
                for (int i = 0; i < h + grows; i++) text.append("; DROP");
                String want = h < pops ? "2 at " + (h + 1) : OK;
                due(row + " at height " + h, judged(text + "; JUMP 1"), want);
                if (h >= pops) due(row + " and one more", judged(text + "; DROP; JUMP 1"), "2 at " + (h + 2 + h + grows));
            }
        }
        for (String op : new String[] {"RETURN", "THROW"}) {
            due(op + " at height 0", judged("FUNC 1; " + op), "2 at 1");
            due(op + " at height 1", judged("FUNC 1; PUSH 1; " + op), OK);
            due(op + " at height 8", judged(pushes(8) + "; " + op), OK);
        }
        due("JUMP at height 0", judged("FUNC 1; JUMP 1"), OK);
    }

    private static void tooHigh() {
        due("eight", judged(pushes(8) + "; RETURN"), OK);
        due("nine", judged(pushes(9) + "; RETURN"), "2 at 9");
        for (String row : TABLE) {
            int grows = Integer.parseInt(row.split(" ")[2]) - Integer.parseInt(row.split(" ")[1]);
            String at7 = pushes(7) + "; " + spelled(row, 8) + "; JUMP 9";
            String at8 = pushes(8) + "; " + spelled(row, 9) + "; JUMP 10";
            due(row + " at height 7", judged(at7), OK);
            due(row + " at height 8", judged(at8), grows > 0 ? "2 at 9" : OK);
        }
        TenantHost x = host(16, pushes(8) + "; ADD; ADD; ADD; ADD; ADD; ADD; ADD; RETURN");
        due("eight values are held", ends(x, 0), "0 8");
        due("a loop that grows", judged("FUNC 1; PUSH 1; JUMP 1"), "2 at 1");
        fullest();
    }

    /** Each instruction with as many values as it may have: those that it does not take stay as they are. */
    private static void fullest() {
        String[] rows = {"PUSH_9 0 9", "DUP 1 64 64", "DROP 1", "SWAP 2 128 64", "ADD 2 192", "SUB 2 -64", "MUL 2 8192",
            "LESS 2 1", "SAME 2 0", "LOAD_0 0 500", "STORE_0 1", "ZERO_NEXT 1", "CALL_1 1 128", "PRIV_1 1 128",
            "SEND_0 1 64 0", "SEND_1 1 0 5", "SEND_2 1 0 4", "SEND_3 1 0 3", "SPAWN_1 1 1", "GUARD_0_9 0 0", "GUARD_1_9 1",
            "GUARD_2_9 0 0", "GUARD_3_9 0 0", "ALLOC 1 1", "FREE 1", "YIELD 0"};
        for (String row : rows) {
            String[] word = row.split(" ");
            int pops = Integer.parseInt(word[1]);
            int pushed = word.length - 2;
            int h = pushed > pops ? 8 - (pushed - pops) : 8;
            StringBuilder text = new StringBuilder("FUNC 1");
            for (int i = 0; i < h; i++) text.append("; PUSH ").append(1 << i);
            text.append("; ").append(spelled(row, h + 1));
            int[] values = new int[8];
            int left = h - pops;
            for (int i = 0; i < left; i++) values[i] = 1 << i;
            for (int i = 0; i < pushed; i++) values[left + i] = Integer.parseInt(word[2 + i]);
            // what is left is taken from each other from the top down, so that each value and its place counts
            int want = values[left + pushed - 1];
            for (int i = left + pushed - 2; i >= 0; i--) {
                text.append("; SUB");
                want = values[i] - want;
            }
            due(row + " at height " + h, ends(fullHost(text + "; RETURN; FUNC 1; LOAD 0; RETURN"), 500), "0 " + want);
        }
    }

    private static TenantHost fullHost(String text) {
        TenantHost x = host(16, text, ECHO);
        x.grant(0, 15, ANYTHING);
        x.limits(0, 1000, 1000, 3);
        x.capability(0, 0, 1, 0);
        x.capability(0, 2, 1, 0);
        x.revoke(0, 2);
        x.capability(0, 3, 1, 3);
        return x;
    }

    private static void whatFollows() {
        // what stands behind JUMP, RETURN or THROW has no height: nothing is asked of it
        due("behind JUMP", judged("FUNC 1; JUMP 1; DROP"), OK);
        due("behind RETURN", judged("FUNC 1; PUSH 1; RETURN; ADD; SWAP"), OK);
        due("behind THROW", judged("FUNC 1; PUSH 1; THROW; DROP; FUNC 1; PUSH 1; RETURN"), OK);
        due("behind ZERO", judged("FUNC 1; PUSH 1; ZERO 4; DROP; PUSH 1; RETURN"), "2 at 3");
        due("the target of JUMP", judged("FUNC 1; JUMP 3; YIELD; DROP; JUMP 2"), "2 at 3");
        due("the target of ZERO", judged("FUNC 1; PUSH 1; ZERO 5; PUSH 1; RETURN; RETURN"), "2 at 5");
        due("the target's height", judged("FUNC 1; PUSH 1; PUSH 2; JUMP 5; DROP; ADD; RETURN"), OK);
        due("ZERO's height, both ways", judged("FUNC 1; PUSH 1; PUSH 2; ZERO 5; RETURN; THROW"), OK);
        due("a target before", judged("FUNC 1; JUMP 4; ADD; RETURN; PUSH 1; JUMP 2"), "2 at 2");
        // a height that does not fit goes no further
        due("the first that does not fit", judged("FUNC 1; DROP; DROP; JUMP 1"), "2 at 1");
        due("nothing from what does not fit", judged("FUNC 1; JUMP 4; RETURN; YIELD; DROP; JUMP 2"), "2 at 4");
    }

    private static void twoHeights() {
        due("by a jump forward", judged("FUNC 1; PUSH 1; ZERO 4; PUSH 1; YIELD; JUMP 4"), "2 at 4");
        due("by a jump back", judged("FUNC 1; YIELD; PUSH 1; JUMP 1"), "2 at 1");
        due("by two jumps", judged("FUNC 1; PUSH 1; ZERO 5; PUSH 1; JUMP 5; JUMP 5"), "2 at 5");
        due("the same by two ways", judged("FUNC 1; PUSH 1; ZERO 4; YIELD; JUMP 4"), OK);
        due("heights 0 and 8", judged("FUNC 1; JUMP 3; YIELD; PUSH 1; PUSH 1; PUSH 1; PUSH 1; PUSH 1; PUSH 1; PUSH 1;"
            + " PUSH 1; JUMP 3"), "2 at 3");
        due("found from behind", judged("FUNC 1; JUMP 4; YIELD; JUMP 2; PUSH 1; PUSH 1; PUSH 1; ZERO 2; DROP; JUMP 2"), "2 at 2");
        due("of ten, the ninth does not fit", judged("FUNC 1; JUMP 3; JUMP 5; PUSH 1; JUMP 3; DROP"), "2 at 3");
        due("at a place that fits both", judged("FUNC 1; PUSH 1; PUSH 1; ZERO 5; PUSH 1; RETURN"), "2 at 5");
        due("after many rounds", judged(manyRounds(7)), "2 at 2");
        due("after more than all rounds", judged(manyRounds(8)), "2 at 4");
    }

    /**
     * A loop that gets higher by one in each round, which leads through forty jumps back. Only the height that is left
     * after so many DROPs leads from it to the DROP at 2, where it does not fit.
     */
    private static String manyRounds(int drops) {
        StringBuilder text = new StringBuilder("FUNC 1; JUMP 4; DROP; JUMP 3; PUSH 1; LOAD 0; ZERO 49; JUMP 48; JUMP 4");
        for (int i = 9; i < 49; i++) text.append("; JUMP ").append(i - 1);
        for (int i = 0; i < drops; i++) text.append("; DROP");
        return text + "; JUMP 2";
    }

    private static void runningOut() {
        due("FUNC at the end", judged("FUNC 1"), "2 at 0");
        due("FUNC before FUNC", judged("FUNC 1; FUNC 1; JUMP 2"), "2 at 0");
        due("a later FUNC at the end", judged("FUNC 1; JUMP 1; FUNC 1; JUMP 3; FUNC 1"), "2 at 4");
        due("a later FUNC before FUNC", judged("FUNC 1; JUMP 1; FUNC 1; FUNC 1; JUMP 4"), "2 at 2");
        String[] plain = {"PUSH 1", "DUP", "DROP", "SWAP", "ADD", "LOAD 0", "STORE 0", "ZERO 1", "CALL 0", "PRIV 0", "SEND 0",
            "SPAWN 0", "GUARD 0 0", "GUARD 1 0", "ALLOC", "FREE", "YIELD"};
        for (String last : plain) {
            String before = last.startsWith("ZERO") ? "FUNC 1; YIELD; PUSH 1" : "FUNC 1; PUSH 1; PUSH 1";
            due(last + " at the end", judged(before + "; " + last), "2 at 3");
            due(last + " before FUNC", judged(before + "; " + last + "; FUNC 1; PUSH 1; RETURN"), "2 at 3");
        }
        for (String last : new String[] {"JUMP 1", "PUSH 1; RETURN", "PUSH 1; THROW"}) {
            due(last + " at the end", judged("FUNC 1; " + last), OK);
            due(last + " before FUNC", judged("FUNC 1; " + last + "; FUNC 1; PUSH 1; RETURN"), OK);
        }
        due("without a height", judged("FUNC 1; JUMP 1; YIELD"), OK);
        due("without a height before FUNC", judged("FUNC 1; JUMP 1; YIELD; FUNC 1; PUSH 1; RETURN"), OK);
        due("the 64th", judged(bundle(64, "FUNC 1", "YIELD", "YIELD")), "2 at 63");
    }

    private static TenantHost sixLoops() {
        TenantHost x = host(1, LOOP, LOOP);
        for (int k = 0; k < 6; k++) due("thread " + k, x.start(k % 2, 0, 0), k);
        return x;
    }

    private static void threadNumbers() {
        TenantHost x = sixLoops();
        due("no seventh", x.start(0, 0, 0), -1);
        for (int k = 0; k < 6; k++) due("of thread " + k, thread(x, k), "1 -1 0 " + (1 + k % 2) + " " + (k == 0 ? 1 : 0));
        for (int k : new int[] {-1, 6, MIN, MAX}) due("no thread " + k, thread(x, k), "-1 -1 -1 -1 -1");
        String fills = pushes(8) + "; RETURN; FUNC 4; PUSH 7; STORE 3; PUSH 8; STORE 1; PUSH 1; YIELD; PUSH 2; SUB; LOAD 3; ADD;"
            + " LOAD 1; ADD; LOAD 0; ADD; RETURN";
        x = host(1, fills);
        x.start(0, 1, 100);
        x.start(0, 0, 0);
        x.start(0, 1, 200);
        x.run(200);
        due("values and locals are each frame's own", thread(x, 0) + ", " + thread(x, 1) + ", " + thread(x, 2),
            "0 0 114 0 0, 0 0 1 0 0, 0 0 214 0 0");
        allFramesInUse();
    }

    /** Calls itself five times with four locals and seven values in each frame; what it returns depends on them all. */
    private static final String WIDE = "FUNC 4; LOAD 1; LOAD 2; ADD; LOAD 3; ADD; LOAD 0; PUSH 1; SUB; STORE 2; LOAD 0; PUSH 3;"
        + " MUL; STORE 1; LOAD 0; PUSH 5; MUL; STORE 3; PUSH 1; PUSH 2; PUSH 4; PUSH 8; PUSH 16; PUSH 32; LOAD 0; ZERO 29;"
        + " LOAD 2; CALL 0; JUMP 30; PUSH 7; SUB; SUB; SUB; SUB; SUB; SUB; SUB; LOAD 0; ADD; LOAD 1; ADD; LOAD 2; ADD;"
        + " LOAD 3; ADD; RETURN";

    private static int wideResult() {
        int result = 7;
        for (int n = 0; n <= 5; n++) {
            for (int value = 32; value > 0; value /= 2) result = value - result;
            result = 0 - result + n + 3 * n + (n - 1) + 5 * n;
        }
        return result;
    }

    /** All frames of all threads in use at once, the threads in turns of one step, each at another place. */
    private static void allFramesInUse() {
        TenantHost x = host(1, WIDE, WIDE);
        int most = 0;
        for (int k = 0; k < 6; k++) {
            due("begin " + k, x.start(k % 2, 0, 5), k);
            x.run(7);
        }
        for (int i = 0; i < 90; i++) {
            x.run(20);
            most = Math.max(most, x.tenant(0, 3) + x.tenant(1, 3));
        }
        due("frames at once", most, 36);
        for (int k = 0; k < 6; k++) due("end of " + k, thread(x, k), "0 0 " + wideResult() + " 0 0");
    }

    private static void inheritsNone() {
        TenantHost x = host(16, "FUNC 1; LOAD 0; SEND 0; ADD; RETURN", "FUNC 1; LOAD 0; SPAWN 1; RETURN; FUNC 1; PUSH 1; RETURN");
        x.capability(0, 0, 1, 0);
        x.start(0, 0, 0);
        x.run(8);
        due("spawned, inherits 0 and 1", x.thread(1, 3), 3);
        x.run(200);
        due("fill 0", x.start(0, 0, 0), 0);
        due("the number of the spawned one again", x.start(1, 1, 0), 1);
        due("begun by start", x.thread(1, 3), 2);
    }

    private static void downToPrivileged() {
        // 0 sends to 1, 1 has a privileged frame that calls, then sends to 2, 2 sends to 3
        TenantHost x = host(16, "FUNC 1; LOAD 0; SEND 0; ADD; RETURN",
            "FUNC 1; LOAD 0; PRIV 1; RETURN; FUNC 1; LOAD 0; SEND 0; ADD; RETURN",
            "FUNC 1; LOAD 0; SEND 0; ADD; RETURN", "FUNC 1; LOAD 0; PRIV 1; RETURN; FUNC 1; LOAD 0; RETURN");
        for (int t = 0; t < 3; t++) x.capability(t, 0, t + 1, 0);
        x.start(0, 0, 0);
        int[] steps = {0, 3, 3, 3, 3, 3, 3, 1, 2};
        int[] domains = {1, 3, 2, 6, 14, 8, 14, 6, 2};
        int[] frames = {1, 2, 3, 4, 5, 6, 5, 4, 3};
        for (int i = 0; i < steps.length; i++) {
            x.run(steps[i]);
            due("frames at " + i, x.thread(0, 0), frames[i]);
            due("domains at " + i, x.thread(0, 3), domains[i]);
        }
        x.run(2);
        due("the privileged one has gone", x.thread(0, 3), 3);
        x.run(200);
        due("ended", thread(x, 0), "0 0 0 0 0");
        x = host(16, "FUNC 1; LOAD 0; PRIV 1; RETURN; FUNC 1; LOAD 0; CALL 2; RETURN; FUNC 1; JUMP 9");
        x.start(0, 0, 0);
        x.run(10);
        due("one tenant alone", thread(x, 0), "3 -1 0 1 1");
    }

    private static void allFramesAndInherited() {
        TenantHost x = host(16, "FUNC 1; LOAD 0; SEND 0; ADD; RETURN",
            "FUNC 1; LOAD 0; SPAWN 1; RETURN; FUNC 1; LOAD 0; SEND 0; ADD; RETURN; FUNC 1; LOAD 0; PRIV 1; RETURN",
            "FUNC 1; LOAD 0; SEND 0; ADD; RETURN", LOOP);
        x.capability(0, 0, 1, 0);
        x.capability(1, 0, 2, 0);
        x.capability(2, 0, 3, 0);
        x.start(0, 0, 0);
        x.run(6);
        due("inherited 0, its frame 1", x.thread(1, 3), 3);
        x.run(3);
        due("the first has ended", x.thread(0, 1), 0);
        due("still inherited", x.thread(1, 3), 3);
        x.run(3);
        due("and the frame of 2", thread(x, 1), "2 -1 0 7 1");
        x.run(3);
        due("and the frame of 3", thread(x, 1), "3 -1 0 15 1");
    }

    private static void inheritsDomains() {
        // 0 sends to 1; 1 spawns from a plain or a privileged frame; the new thread spawns again
        String spawner = "FUNC 1; LOAD 0; HOW 1; RETURN; FUNC 1; LOAD 0; SPAWN 2; RETURN;"
            + " FUNC 1; LOAD 0; SPAWN 3; RETURN; FUNC 1; JUMP 13";
        for (String how : new String[] {"CALL", "PRIV"}) {
            TenantHost x = host(16, "FUNC 1; LOAD 0; SEND 0; ADD; RETURN", spawner.replace("HOW", how));
            x.capability(0, 0, 1, 0);
            x.start(0, 0, 0);
            x.run(60);
            int want = how.equals("CALL") ? 3 : 2;
            due("all ended but the last", x.tenant(1, 2) + " " + x.tenant(0, 2), "1 0");
            due("through two SPAWNs, " + how, thread(x, 0), "1 -1 0 " + want + " 1");
        }
    }

    private static void eachDomain() {
        for (int given = 0; given < 8; given++) {
            TenantHost x = host(16, "FUNC 1; LOAD 0; SEND 0; ADD; RETURN", "FUNC 1; LOAD 0; SEND 0; ADD; RETURN",
                "FUNC 1; PUSH 9; GUARD 1 5; PUSH 0; RETURN");
            x.capability(0, 0, 1, 0);
            x.capability(1, 0, 2, 0);
            x.grant(3, 15, ANYTHING);
            for (int t = 0; t < 3; t++) if ((given >> t & 1) == 1) x.grant(t, 2, pattern(0, 1, 7));
            due("granted to " + given, ends(x, 0), given == 7 ? "0 0" : "0 1");
            due("written with " + given, x.resource(5), given == 7 ? 9 : 0);
        }
        TenantHost x = host(16, "FUNC 1; GUARD 0 0; RETURN");
        due("ACCESS ends a thread", ends(x, 0), "1 0");
        due("with a tick for the GUARD", x.tenant(0, 0), 2);
    }

    private static void everyGuard() {
        TenantHost x = host(16, "FUNC 1; GUARD 0 7; RETURN");
        ends(x, 0);
        due("a denied one", x.audit(0), 7);
        due("no other", x.audit(1), -1);
        x.grant(0, 1, ANYTHING);
        x.start(0, 0, 0);
        x.run(1);
        due("not before it is executed", x.audit(1), -1);
        x.run(1);
        due("an allowed one", x.audit(0), 7 + 2048);
        due("behind the latest", x.audit(1), 7);
        x.run(200);
        x.limits(0, x.tenant(0, 0) + 1, 0, 3);
        due("QUOTA at the GUARD", ends(x, 0), "2 0");
        due("not executed, not noted", x.audit(2), -1);
    }

    /** What each tenant answers if it is killed before the instruction that stands behind the body. */
    private static String killedBefore(String body, String last, int steps) {
        String first = killedBefore(0, body, last, steps);
        for (int t = 1; t < 4; t++) due("tenant " + t + " as tenant 0", killedBefore(t, body, last, steps), first);
        return first;
    }

    private static String killedBefore(int t, String body, String last, int steps) {
        TenantHost x = new TenantHost(16);
        due("deploy", deploy(x, t, "FUNC 1; " + body + "; " + last), 0);
        x.grant(t, 15, ANYTHING);
        x.capability(t, 0, 3 - t, 0);
        x.start(t, 0, 0);
        x.run(steps);
        int ticks = x.tenant(t, 0);
        due("killed", x.kill(t), true);
        due("a step", x.run(1), 1);
        return x.thread(0, 1) + " " + (x.tenant(t, 0) - ticks);
    }

    private static void killedAtPolls() {
        TenantHost x = host(16, ECHO);
        x.start(0, 0, 5);
        x.kill(0);
        due("FUNC", x.run(200), 1);
        due("ended, with no tick", thread(x, 0) + ", " + tenant(x, 0), "0 3 0 0 0, 0 0 0 0 2 1 0");
        for (String poll : new String[] {"CALL 0", "PRIV 0", "SEND 0", "SPAWN 0"}) {
            due(poll, killedBefore("PUSH 1", poll + "; JUMP 3", 2), "3 0");
        }
        String[] plain = {"PUSH 1", "DUP", "DROP", "SWAP", "ADD", "SUB", "MUL", "LESS", "SAME", "LOAD 0", "STORE 0",
            "GUARD 0 0", "GUARD 1 0", "GUARD 2 0", "GUARD 3 0", "ALLOC", "FREE", "YIELD"};
        for (String op : plain) due(op, killedBefore("PUSH 1; PUSH 1", op + "; JUMP 4", 3), "-1 1");
        due("RETURN", killedBefore("PUSH 1", "RETURN", 2), "0 1");
        due("THROW", killedBefore("PUSH 1", "THROW", 2), "11 1");
        // only the top frame's tenant counts, and the killed one below goes on to its next poll
        x = host(16, "FUNC 1; LOAD 0; SEND 0; ADD; LOAD 0; CALL 0; RETURN",
            "FUNC 1; LOAD 0; CALL 1; RETURN; FUNC 1; PUSH 6; RETURN");
        x.capability(0, 0, 1, 0);
        x.start(0, 0, 0);
        x.run(3);
        x.kill(0);
        due("to the end of the other's frames", x.run(7), 7);
        due("one frame", thread(x, 0), "1 -1 0 1 1");
        due("to its CALL", x.run(200), 3);
        due("KILLED there", thread(x, 0), "0 3 0 0 0");
    }

    private static void jumpPolls() {
        due("JUMP back", killedBefore("YIELD; YIELD", "JUMP 1", 3), "3 0");
        due("JUMP to the one before", killedBefore("YIELD; YIELD", "JUMP 2", 3), "3 0");
        due("JUMP to itself", killedBefore("YIELD; YIELD", "JUMP 3", 3), "3 0");
        due("JUMP to the next", killedBefore("YIELD; YIELD", "JUMP 4; JUMP 4", 3), "-1 1");
        due("JUMP forward", killedBefore("YIELD; YIELD", "JUMP 5; YIELD; JUMP 5", 3), "-1 1");
        due("ZERO back", killedBefore("YIELD; PUSH 0", "ZERO 1; JUMP 4", 3), "3 0");
        due("ZERO back that would not jump", killedBefore("YIELD; PUSH 1", "ZERO 1; JUMP 4", 3), "3 0");
        due("ZERO to the one before", killedBefore("YIELD; PUSH 0", "ZERO 2; PUSH 1; RETURN", 3).startsWith("3"), true);
        due("ZERO to the next", killedBefore("YIELD; PUSH 0", "ZERO 4; JUMP 4", 3), "-1 1");
        due("ZERO to the next that would not jump", killedBefore("YIELD; PUSH 1", "ZERO 4; JUMP 4", 3), "-1 1");
        due("ZERO forward", killedBefore("YIELD; PUSH 0", "ZERO 5; YIELD; JUMP 5", 3), "-1 1");
    }

    private static void quota() {
        for (int limit = 0; limit < 4; limit++) {
            TenantHost x = host(16, "FUNC 1; LOAD 0; RETURN");
            x.limits(0, limit, 0, 3);
            x.start(0, 0, 6);
            due("steps with " + limit, x.run(200), limit < 3 ? limit + 1 : 3);
            due("the end with " + limit, thread(x, 0), limit < 3 ? "0 2 0 0 0" : "0 0 6 0 0");
            due("ticks with " + limit, x.tenant(0, 0), limit);
        }
        TenantHost x = host(16, LOOP);
        x.start(0, 0, 0);
        x.run(9);
        x.limits(0, 4, 0, 3);
        due("used more than the limit", x.run(9), 1);
        due("QUOTA", thread(x, 0), "0 2 0 0 0");
        due("ticks stay", x.tenant(0, 0), 9);
        x.limits(0, 10, 0, 3);
        x.start(0, 0, 0);
        due("one tick more", x.run(9), 2);
        x = host(16, ECHO);
        x.limits(0, 0, 0, 3);
        x.start(0, 0, 0);
        x.kill(0);
        x.run(9);
        due("KILLED is first at a poll", x.thread(0, 1), 3);
        x = host(16, ECHO);
        x.limits(0, 1, 0, 3);
        x.start(0, 0, 0);
        x.run(1);
        x.kill(0);
        x.run(9);
        due("QUOTA of a killed one where no poll is", x.thread(0, 1), 2);
        x = host(16, "FUNC 1; LOAD 0; SEND 0; SWAP; DROP; RETURN", LOOP);
        x.capability(0, 0, 1, 0);
        x.limits(1, 0, 0, 0);
        due("of the one that was sent to", ends(x, 0), "0 2");
        x.limits(0, x.tenant(0, 0) + 3, 0, 3);
        x.limits(1, 9, 0, 0);
        x.start(0, 0, 0);
        due("the caller below needs no tick", x.run(12), 12);
        due("its ticks are used up", x.run(1), 1);
        due("then its own QUOTA", x.run(200), 1);
        due("ended", thread(x, 0), "0 2 0 0 0");
    }

    private static void ticks() {
        TenantHost x = host(16, "FUNC 1; LOAD 0; SEND 0; ADD; RETURN", "FUNC 1; LOAD 0; RETURN");
        x.capability(0, 0, 1, 0);
        x.start(0, 0, 7);
        String[] used = {"0 0", "1 0", "2 0", "3 0", "3 1", "3 2", "3 3", "4 3", "5 3", "5 3"};
        for (int i = 0; i < used.length; i++) {
            due("after " + i + " steps", x.tenant(0, 0) + " " + x.tenant(1, 0), used[i]);
            x.run(1);
        }
        due("FUNC changes nothing", thread(x, 0), "0 0 7 0 0");
        due("an instruction with an exception has a tick", endsAlone("FUNC 1; LOAD 0; THROW", 0), "10 0");
        x = host(16, "FUNC 1; LOAD 0; THROW");
        ends(x, 0);
        due("three", x.tenant(0, 0), 3);
    }

    /** Calls itself as often as the argument says, then does what the body says. */
    private static String deep(String how, String body) {
        return "FUNC 1; LOAD 0; ZERO 8; LOAD 0; PUSH 1; SUB; " + how + " 0; RETURN; " + body + "; RETURN";
    }

    private static void depth() {
        for (String how : new String[] {"CALL", "PRIV"}) {
            for (String last : new String[] {"CALL", "PRIV"}) {
                String text = deep(how, "PUSH 3; " + last + " 1") + "; FUNC 1; LOAD 0; RETURN";
                due(last + " with five frames", endsAlone(text, 4), "0 3");
                due(last + " with six frames", endsAlone(text, 5), "6 0");
            }
        }
        TenantHost x = host(16, deep("CALL", "PUSH 3; SEND 0; PUSH 10; MUL; ADD"), ECHO);
        x.capability(0, 0, 1, 0);
        due("SEND with five frames", ends(x, 4), "0 3");
        due("SEND with six frames", ends(x, 5), "6 0");
        x.start(0, 0, 5);
        x.run(5 * 7 + 4);
        due("six frames", x.thread(0, 0), 6);
        due("SEND is the next", x.run(1), 1);
        due("it ends the thread", thread(x, 0), "0 6 0 0 0");
        x = host(16, "FUNC 1; LOAD 0; SEND 0; PUSH 10; MUL; ADD; RETURN", deep("CALL", "PUSH 3"));
        x.capability(0, 0, 1, 0);
        due("five frames of the other", ends(x, 4), "0 3");
        due("six frames of the other: the SEND's code", ends(x, 5), "0 60");
        x = host(16, deep("CALL", "PUSH 3; SPAWN 1") + "; FUNC 1; LOAD 0; RETURN");
        due("SPAWN asks for no frame", ends(x, 5), "0 1");
    }

    private static TenantHost sender(String body) {
        TenantHost x = host(16, body, ECHO);
        due("the other's grants do not matter", x.grant(1, 15, ANYTHING), 0);
        return x;
    }

    private static void emptySlot() {
        TenantHost x = sender(deep("CALL", "PUSH 3; SEND 0; PUSH 10; MUL; ADD"));
        due("empty", ends(x, 0), "0 50");
        due("empty, with six frames", ends(x, 5), "0 50");
        x.kill(1);
        due("though all is killed", ends(x, 0), "0 50");
    }

    private static void revokedSlot() {
        TenantHost x = sender(deep("CALL", "PUSH 3; SEND 0; PUSH 10; MUL; ADD"));
        x.capability(0, 0, 1, 0);
        x.revoke(0, 0);
        due("revoked", ends(x, 0), "0 40");
        due("revoked, with six frames", ends(x, 5), "0 40");
        x.kill(1);
        due("revoked and killed", ends(x, 0), "0 40");
        x.capability(0, 0, 1, 3);
        x.revoke(0, 0);
        due("revoked and no such function", ends(x, 0), "0 40");
    }

    private static void noFunction() {
        TenantHost x = sender(deep("CALL", "PUSH 3; SEND 0; PUSH 10; MUL; ADD"));
        x.capability(0, 0, 1, 1);
        due("has not function 1", ends(x, 0), "0 30");
        due("with six frames", ends(x, 5), "0 30");
        x.capability(0, 0, 3, 0);
        due("no bundle", ends(x, 0), "0 30");
        x.capability(0, 0, 1, 0);
        due("has function 0", ends(x, 0), "0 3");
        x.kill(1);
        due("killed", ends(x, 0), "0 30");
        due("killed, with six frames", ends(x, 5), "0 30");
        due("deployed again", deploy(x, 1, "FUNC 1; PUSH 8; RETURN; FUNC 1; PUSH 9; RETURN"), 0);
        due("the same capability", ends(x, 0), "0 8");
        x.capability(0, 0, 1, 1);
        due("function 1 now", ends(x, 0), "0 9");
        x.capability(0, 0, 1, 2);
        due("not function 2", ends(x, 0), "0 30");
    }

    private static void sentFrame() {
        TenantHost x = sender("FUNC 1; LOAD 0; SEND 0; ADD; RETURN");
        x.capability(0, 0, 1, 0);
        x.start(0, 0, 4);
        x.run(3);
        due("frames", x.tenant(0, 3) + " " + x.tenant(1, 3), "1 1");
        due("no thread of it", x.tenant(1, 2), 0);
        due("thread", thread(x, 0), "2 -1 0 3 1");
        x = host(16, "FUNC 1; LOAD 0; ZERO 9; LOAD 0; PUSH 1; SUB; SEND 0; DROP; DROP; PUSH 6; RETURN");
        x.capability(0, 0, 0, 0);
        x.start(0, 0, 1);
        x.run(9);
        due("to itself", x.tenant(0, 3) + " " + x.thread(0, 0), "2 2");
    }

    private static void spawnLimit() {
        String text = "FUNC 1; LOAD 0; SPAWN 1; RETURN; FUNC 1; JUMP 5";
        TenantHost x = host(16, text, LOOP);
        x.start(1, 0, 0);
        due("the first by start, a second by SPAWN", ends(x, 0), "0 2");
        due("two left of it", x.tenant(0, 2), 1);
        x.start(0, 0, 0);
        x.run(40);
        due("a third while it has two", x.thread(1, 2), 3);
        due("as many as two", x.tenant(0, 2), 2);
        x.start(0, 0, 0);
        x.run(60);
        due("the limit is reached by the one that spawns", x.thread(1, 2), -1);
        due("still two", x.tenant(0, 2), 2);
        x.limits(0, 1000, 0, 1);
        due("more than the limit", x.start(0, 0, 0), -1);
        x = host(16, "FUNC 1; LOAD 0; SEND 0; DROP; RETURN", "FUNC 1; LOAD 0; SPAWN 1; RETURN; FUNC 1; PUSH 5; RETURN");
        x.capability(0, 0, 1, 0);
        x.limits(1, 1000, 0, 0);
        due("the limit of the top frame's tenant", ends(x, 0), "0 -1");
        x.limits(1, 1000, 0, 1);
        x.limits(0, 1000, 0, 1);
        due("not that of the thread's", ends(x, 0), "0 1");
        due("those that have ended do not count", ends(x, 0), "0 1");
    }

    private static void spawnSix() {
        String text = "FUNC 1; LOAD 0; SPAWN 1; RETURN; FUNC 1; JUMP 5";
        TenantHost x = host(16, text);
        x.limits(0, 1000, 0, 1000000);
        for (int k = 0; k < 4; k++) due("loop " + k, x.start(0, 1, 0), k);
        due("with five in use", x.start(0, 0, 0), 4);
        x.run(120);
        due("the sixth number", thread(x, 4), "0 0 5 0 0");
        due("the sixth", x.start(0, 0, 0), 4);
        x.run(120);
        due("with six in use", thread(x, 4), "0 0 -1 0 0");
        due("five", x.tenant(0, 2), 5);
    }

    private static void spawnLeast() {
        String text = "FUNC 1; LOAD 0; SPAWN 1; RETURN; FUNC 1; JUMP 5; FUNC 1; PUSH 1; RETURN";
        TenantHost x = host(16, text);
        x.limits(0, 1000, 0, 6);
        x.start(0, 1, 0);
        x.start(0, 2, 0);
        x.start(0, 1, 0);
        x.start(0, 2, 0);
        x.start(0, 0, 0);
        x.run(80);
        due("1 and 3 are free, 1 is less", thread(x, 4), "0 0 1 0 0");
        x.start(0, 0, 0);
        x.run(80);
        due("3 spawns, 4 is free", thread(x, 3), "0 0 4 0 0");
        x = host(16, text);
        due("a new one is never its own number", ends(x, 0), "0 1");
        due("but may be below it", x.start(0, 0, 0), 0);
        x.run(40);
        due("2 is free behind 0 and 1", thread(x, 0), "0 0 2 0 0");
    }

    private static void exceptionFrames() {
        // function 1 throws out of three frames that were called
        String thrower = "FUNC 1; LOAD 0; CALL 1; RETURN; FUNC 1; LOAD 0; PRIV 2; RETURN; FUNC 1; LOAD 0; THROW";
        TenantHost x = host(16, "FUNC 1; PUSH 4; LOAD 0; SEND 0; PUSH 100; MUL; ADD; ADD; RETURN", thrower);
        x.capability(0, 0, 1, 0);
        x.start(0, 0, 5);
        x.run(12);
        due("four frames", x.thread(0, 0), 4);
        x.run(1);
        due("one is left", thread(x, 0), "1 -1 0 1 1");
        x.run(200);
        due("its values, the result 0 and the code 15", thread(x, 0), "0 0 1504 0 0");
        x = host(16, "FUNC 1; LOAD 0; SEND 0; PUSH 100; MUL; ADD; RETURN", "FUNC 1; LOAD 0; SEND 0; ADD; RETURN", thrower);
        x.capability(0, 0, 1, 0);
        x.capability(1, 0, 2, 0);
        due("the newest SEND alone", ends(x, 1), "0 11");
        x = host(16, "FUNC 1; LOAD 0; CALL 1; RETURN; FUNC 1; LOAD 0; SEND 0; ADD; THROW", thrower);
        x.capability(0, 0, 1, 0);
        due("a second exception finds no SEND", ends(x, 2), "22 0");
        x = host(16, "FUNC 1; PUSH 7; PUSH 4; LOAD 0; SEND 0; DROP; SUB; MUL; RETURN", thrower);
        x.capability(0, 0, 1, 0);
        due("the result 0 stands between the values and the code", ends(x, 2), "0 28");
        x = host(16, pushes(6) + "; LOAD 0; SEND 0; ADD; ADD; ADD; ADD; ADD; ADD; ADD; RETURN", thrower);
        x.capability(0, 0, 1, 0);
        due("eight values then", ends(x, 2), "0 18");
        exceptionsOnAllThreads();
    }

    private static void exceptionsOnAllThreads() {
        TenantHost x = host(1, "FUNC 1; PUSH 9; LOAD 0; CALL 1; SUB; RETURN; FUNC 1; LOAD 0; SEND 0; PUSH 100; MUL; ADD;"
            + " RETURN",
            "FUNC 1; LOAD 0; CALL 1; RETURN; FUNC 1; LOAD 0; THROW");
        x.limits(0, 1000, 0, 6);
        x.limits(1, 1000, 0, 6);
        x.capability(0, 0, 1, 0);
        for (int k = 0; k < 6; k++) due("thread " + k, x.start(0, 0, k), k);
        x.run(200);
        for (int k = 0; k < 6; k++) due("thread " + k + " goes on", thread(x, k), "0 0 " + (9 - 100 * (10 + k)) + " 0 0");
        for (int k = 0; k < 6; k++) due("thread " + k, x.start(1, 0, k), k);
        x.run(200);
        for (int k = 0; k < 6; k++) due("thread " + k + " ends", thread(x, k), "0 " + (10 + k) + " 0 0 0");
    }

    private static void exceptionEnds() {
        TenantHost x = host(16, "FUNC 1; LOAD 0; CALL 1; RETURN; FUNC 1; LOAD 0; PRIV 2; RETURN; FUNC 1; LOAD 0; THROW", LOOP);
        x.start(0, 0, 7);
        x.start(1, 0, 0);
        due("steps", x.run(9), 9);
        due("ended from three frames", thread(x, 0), "0 17 0 0 0");
        due("no frames", x.tenant(0, 3) + " " + x.tenant(0, 2), "0 0");
        due("the other goes on", thread(x, 1), "1 -1 0 2 1");
        x = host(16, "FUNC 1; LOAD 0; SEND 0; DROP; DROP; PUSH 3; THROW", ECHO);
        x.capability(0, 0, 1, 0);
        due("a SEND that has returned is none", ends(x, 0), "13 0");
    }

    private static void lastReturn() {
        for (int value : new int[] {MIN, -1, 0, 1, MAX}) {
            TenantHost x = host(16, ECHO);
            x.start(0, 0, value);
            x.run(2);
            due("not ended", thread(x, 0), "1 -1 0 1 1");
            x.run(1);
            due("ended with " + value, thread(x, 0), "0 0 " + value + " 0 0");
        }
        TenantHost x = host(16, "FUNC 1; LOAD 0; CALL 1; PUSH 1; ADD; RETURN; FUNC 1; LOAD 0; RETURN");
        x.start(0, 0, 5);
        x.run(6);
        due("a RETURN of another frame", thread(x, 0), "1 -1 0 1 1");
        x.run(3);
        due("then the last", thread(x, 0), "0 0 6 0 0");
        x = host(16, pushes(7) + "; PUSH 9; RETURN");
        for (int i = 0; i < 3; i++) due("other values are gone", ends(x, 0), "0 9");
    }

    private static void answersStay() {
        TenantHost x = host(16, "FUNC 1; LOAD 0; RETURN; FUNC 1; LOAD 0; THROW", LOOP);
        x.start(0, 0, 8);
        x.start(0, 1, 8);
        x.run(200);
        due("0", thread(x, 0), "0 0 8 0 0");
        due("1", thread(x, 1), "0 18 0 0 0");
        due("its number is used again", x.start(1, 0, 0), 0);
        x.run(50);
        due("new answers", thread(x, 0), "1 -1 0 2 1");
        due("1 stays", thread(x, 1), "0 18 0 0 0");
        x.kill(0);
        due("and when its tenant is killed", thread(x, 1), "0 18 0 0 0");
        deploy(x, 0, LOOP);
        due("and when it has another bundle", thread(x, 1), "0 18 0 0 0");
        due("a refused start", x.start(0, 3, 0), -1);
        due("uses no number", thread(x, 1), "0 18 0 0 0");
        due("used again", x.start(0, 0, 0), 1);
        due("new answers of 1", thread(x, 1), "1 -1 0 1 0");
    }

    private static void nextTurn() {
        TenantHost x = sixLoops();
        for (int i = 0; i < 13; i++) {
            due("turn " + i, turn(x), i % 6);
            x.run(1);
        }
        x = host(1, LOOP, "FUNC 1; PUSH 1; RETURN", "FUNC 1; PUSH 1; RETURN");
        int[] owner = {0, 1, 1, 0, 2, 2};
        for (int k = 0; k < 6; k++) due("thread " + k, x.start(owner[k], 0, 0), k);
        x.run(18);
        int[] turns = {0, 3, 0, 3, 0};
        for (int want : turns) {
            due("over the ended ones", turn(x), want);
            x.run(1);
        }
        x = host(1, LOOP);
        x.start(0, 0, 0);
        for (int i = 0; i < 3; i++) {
            due("alone", turn(x), 0);
            x.run(1);
        }
    }

    private static void endOfTurn() {
        for (int quantum = 1; quantum <= 16; quantum++) {
            TenantHost x = host(quantum, LOOP);
            x.start(0, 0, 0);
            x.start(0, 0, 0);
            x.run(quantum - 1);
            due("before " + quantum + " steps", turn(x), 0);
            x.run(1);
            due("after " + quantum + " steps", turn(x), 1);
            x.run(quantum - 1);
            due("before " + quantum + " more", turn(x), 1);
            x.run(1);
            due("after " + quantum + " more", turn(x), 0);
        }
        TenantHost x = host(3, "FUNC 1; YIELD; JUMP 1", LOOP, ECHO, "FUNC 1; LOAD 0; THROW");
        x.start(0, 0, 0);
        x.start(1, 0, 0);
        int[] turns = {0, 0, 1, 1, 1, 0, 0, 1, 1, 1};
        for (int i = 0; i < turns.length; i++) {
            due("YIELD, step " + i, turn(x), turns[i]);
            x.run(1);
        }
        x = host(5, LOOP, ECHO, "FUNC 1; LOAD 0; THROW");
        x.start(1, 0, 0);
        x.start(2, 0, 0);
        x.start(0, 0, 0);
        x.run(3);
        due("an end by RETURN", turn(x), 1);
        x.run(3);
        due("an end by an exception", turn(x), 2);
        x.run(5);
        due("alone, a new quantum", turn(x), 2);
        x.start(0, 0, 0);
        x.run(4);
        due("not over", turn(x), 2);
        x.run(1);
        due("over", turn(x), 0);
        x = host(3, "FUNC 1; YIELD; JUMP 1", LOOP);
        x.limits(0, 1, 0, 3);
        x.start(0, 0, 0);
        x.start(1, 0, 0);
        x.run(2);
        due("a YIELD that is not executed ends the thread", x.thread(0, 1) + " " + turn(x), "2 1");
        // the quantum's last step is itself a YIELD or the end: the turn goes on once
        x = host(2, "FUNC 1; YIELD; JUMP 1", LOOP);
        x.start(0, 0, 0);
        x.start(1, 0, 0);
        x.start(1, 0, 0);
        x.run(2);
        due("YIELD as the last step", turn(x), 1);
        x.run(1);
        due("with a whole quantum behind it", turn(x), 1);
    }

    private static void firstTurn() {
        TenantHost x = host(4, LOOP, ECHO);
        due("first", x.start(0, 0, 0), 0);
        due("has the turn", turn(x), 0);
        x.start(0, 0, 0);
        due("a second has it not", turn(x), 0);
        x.run(3);
        due("three of four", turn(x), 0);
        x.run(1);
        due("four", turn(x), 1);
        x = host(4, ECHO, LOOP);
        x.start(0, 0, 0);
        due("one thread ends", x.run(200), 3);
        due("none has the turn", turn(x), -1);
        due("the first while none runs", x.start(1, 0, 0), 0);
        x.start(1, 0, 0);
        due("has it", turn(x), 0);
        x.run(3);
        due("a whole quantum", turn(x), 0);
        x.run(1);
        due("is over", turn(x), 1);
        x = host(4, ECHO, LOOP);
        for (int k = 0; k < 3; k++) x.start(0, 0, 0);
        x.run(200);
        due("begun again", x.start(1, 0, 0), 0);
        due("not where the turn was last", turn(x), 0);
    }
}
