import java.util.function.Function;

/** For each sentence of the promises that names a boundary case, a test of its own. */
public final class PromiseBoundaryTests extends HostTest {
    private static final int[] OUTSIDE_0_TO_3 = {-1, 4, 5, MIN, MAX};
    private static final int ANYTHING = 5 + 8 * 7 + 64 * 7;
    private static final String OK = "0 at -1";

    public static void main(String[] args) {
        newObject();
        grants();
        bundles();
        tenantSettings();
        threads();
        answers();
        finish("PromiseBoundaryTests");
    }

    private static void newObject() {
        sentence("An object is used for at most 512 calls after it has been made", PromiseBoundaryTests::allCalls);
        sentence("quantum: QUANTUM, below 1 becomes 1, above 16 becomes 16", PromiseBoundaryTests::quantum);
        sentence("All tenants without bundle, grants, capabilities", PromiseBoundaryTests::newTenants);
        sentence("limits 1000 ticks, 100 units, 3 threads", PromiseBoundaryTests::firstLimits);
        sentence("no threads", PromiseBoundaryTests::noThreads);
        sentence("an empty pending bundle", PromiseBoundaryTests::emptyPending);
    }

    private static void grants() {
        sentence("answers its number (they are numbered 0, 1, .. per tenant)", PromiseBoundaryTests::grantNumbers);
        sentence("three digits base 8 (the first segment lowest), 4 for *, 5 for -, 7 for a segment that is not there",
            PromiseBoundaryTests::patternDigits);
        sentence("REFUSED, and nothing changes, if tenant or actions (1..15) or the pattern is not as said",
            PromiseBoundaryTests::grantRefused);
        sentence("or it has 6 grants", PromiseBoundaryTests::sixGrants);
        sentence("Takes grant k of a tenant away (those behind it move up): true", PromiseBoundaryTests::moveUp);
        sentence("false if there is none", PromiseBoundaryTests::noGrant);
    }

    private static void bundles() {
        sentence("answers their number, or REFUSED, and nothing changes, if there are 64", PromiseBoundaryTests::fullPending);
        sentence("Takes the pending bundle (it is empty then, but for REFUSED)", PromiseBoundaryTests::pendingTaken);
        sentence("REFUSED: no such tenant.", PromiseBoundaryTests::deployRefused);
        sentence("BUSY: a frame of this tenant is on a thread that has not ended.", PromiseBoundaryTests::busy);
        sentence("In these cases the tenant keeps what it had.", PromiseBoundaryTests::keepsBundle);
        sentence("it is the tenant's bundle, the tenant is not killed, no ticks used, no units held",
            PromiseBoundaryTests::deployed);
        sentence("the number of the first instruction that is wrong (its op, its operand in this bundle, not a FUNC at the"
            + " beginning, the fifth FUNC)", PromiseBoundaryTests::firstWrong);
        sentence("0 if the bundle was empty", PromiseBoundaryTests::emptyPlace);
        sentence("of the first that has two heights, one that doesn't fit, or is followed as it may not be",
            PromiseBoundaryTests::firstUnsound);
        sentence("If the latest deploy answered FORM", PromiseBoundaryTests::latestDeploy);
        sentence("deploy tests in the order REFUSED, BUSY, FORM, STACK", PromiseBoundaryTests::deployOrder);
        sentence("with REFUSED and BUSY place answers -1", PromiseBoundaryTests::placeBehind);
    }

    private static void tenantSettings() {
        sentence("Limits of a tenant, each 0..1000000: true", PromiseBoundaryTests::limitRange);
        sentence("false, and nothing changes, if one is not so or there is no such tenant", PromiseBoundaryTests::limitsRefused);
        sentence("Slot s of a tenant gets a new capability for function f (0..3) of tenant to: true",
            PromiseBoundaryTests::newCapability);
        sentence("false, and nothing changes, if one is out of range", PromiseBoundaryTests::capabilityRefused);
        sentence("The capability in that slot is revoked: true; false if there is none, or it is revoked.",
            PromiseBoundaryTests::revoke);
        sentence("The tenant is KILLED: true; false if there is none, it has no bundle, or it was killed.",
            PromiseBoundaryTests::kill);
        sentence("Once no thread that has not ended has a frame of it, it holds no units.",
            PromiseBoundaryTests::unitsOfKilled);
    }

    private static void threads() {
        sentence("Begins a thread of a tenant with its function and an argument: its number.", PromiseBoundaryTests::start);
        sentence("REFUSED: no such tenant, it is killed or has no such function", PromiseBoundaryTests::startRefused);
        sentence("has as many threads as its limit", PromiseBoundaryTests::startLimit);
        sentence("or all six are in use", PromiseBoundaryTests::startSix);
        sentence("n steps (0..200, else 0)", PromiseBoundaryTests::stepRange);
        sentence("fewer if all have ended", PromiseBoundaryTests::fewerSteps);
    }

    private static void answers() {
        sentence("4: 0 no bundle, 1 a bundle, 2 killed, 5: its functions, 6: its grants", PromiseBoundaryTests::tenantAnswers);
        sentence("REFUSED if there is no such tenant or what", PromiseBoundaryTests::noSuchTenantOrWhat);
        sentence("1: its code, or -1 if it has not ended; 2: what it returned (0 if by an exception or it has not ended);"
            + " 3: its domains as a sum of 2^tenant (0 if it has ended); 4: 1 if it has the turn, else 0",
            PromiseBoundaryTests::threadAnswers);
        sentence("REFUSED if there is no such number, it was never used, or what is none of these",
            PromiseBoundaryTests::noSuchThreadOrWhat);
        sentence("The resource of a path; 0 if there is no such path.", PromiseBoundaryTests::noSuchPath);
        sentence("The GUARD noted k before the latest (k 0..7)", PromiseBoundaryTests::noteNumbers);
        sentence("path + 128 * action + 512 * the top frame's tenant + 2048 if it was allowed", PromiseBoundaryTests::noteParts);
        sentence("-1 if there is none", PromiseBoundaryTests::noNote);
    }

    /**
     * A host in the midst of its work: tenant 0 allocates, spawns, guards and sends in a loop and writes down what it
     * gets, so that a change of anything shows in what it does next; two instructions are pending.
     */
    private static TenantHost busyHost() {
        TenantHost x = host(5, "FUNC 2; PUSH 7; ALLOC; GUARD 1 0; PUSH 0; SPAWN 1; GUARD 1 5; LOAD 0; SEND 0; GUARD 1 40;"
            + " GUARD 1 2; LOAD 0; SEND 3; GUARD 1 41; GUARD 1 3; GUARD 0 83; STORE 1; JUMP 1; FUNC 1; YIELD; JUMP 19",
            "FUNC 1; GUARD 2 83; LOAD 0; ADD; RETURN; FUNC 1; LOAD 0; RETURN", "FUNC 1; PUSH 8; RETURN");
        x.grant(0, 2, 5 + 56 + 448);
        x.grant(0, 5, 3 + 8 * 4 + 64 * 4);
        x.grant(1, 4, 3 + 8 * 5 + 448);
        x.grant(1, 1, 2 + 56 + 448);
        x.capability(0, 0, 1, 0);
        x.capability(0, 3, 2, 0);
        x.limits(0, 190, 30, 2);
        x.limits(1, 40, 20, 1);
        x.start(0, 0, 6);
        x.start(2, 0, 0);
        x.run(27);
        add(x, "FUNC 1; PUSH 9");
        return x;
    }

    /** A call that is refused leaves a host as one on which it was not made, then and in what it does next. */
    private static void nothingChanges(String call, Object answer, Function<TenantHost, Object> refused) {
        TenantHost x = busyHost();
        TenantHost other = busyHost();
        due(call, refused.apply(x), answer);
        due("state behind " + call, state(x), state(other));
        due("pending behind " + call, x.code(21, 0, 0), other.code(21, 0, 0));
        due("deploy behind " + call, x.deploy(3), other.deploy(3));
        due("run behind " + call, x.run(200), other.run(200));
        x.start(3, 0, 0);
        other.start(3, 0, 0);
        due("run again behind " + call, x.run(200), other.run(200));
        due("state at last behind " + call, state(x), state(other));
    }

    private static void allCalls() {
        TenantHost x = host(16, "FUNC 1; LOAD 0; PUSH 1; ADD; STORE 0; LOAD 0; GUARD 1 83; PUSH 1; ALLOC; DROP; JUMP 1");
        x.grant(0, 3, ANYTHING);
        x.limits(0, 1000000, 1000000, 1);
        x.start(0, 0, 0);
        // 12 calls deployed it, 3 are made here, 3 are left for the end
        for (int call = 16; call <= 509; call++) due("call " + call, x.run(200), 200);
        int steps = 494 * 200;
        due("ticks", x.tenant(0, 0), steps);
        // behind FUNC there are rounds of ten steps; the last of them lacks its JUMP
        due("units", x.tenant(0, 1), steps / 10);
        due("the 512th call", x.resource(83), steps / 10);
    }

    private static void quantum() {
        int[][] table = {{MIN, 1}, {-16, 1}, {-1, 1}, {0, 1}, {1, 1}, {2, 2}, {15, 15}, {16, 16}, {17, 16}, {32, 16}, {MAX, 16}};
        for (int[] row : table) {
            TenantHost x = host(row[0], LOOP);
            x.start(0, 0, 0);
            x.start(0, 0, 0);
            for (int round = 0; round < 3; round++) {
                x.run(row[1] - 1);
                due("not yet over with " + row[0], turn(x), round % 2);
                x.run(1);
                due("over with " + row[0], turn(x), 1 - round % 2);
            }
        }
    }

    private static void newTenants() {
        TenantHost x = new TenantHost(4);
        for (int t = 0; t < 4; t++) {
            due("tenant " + t, tenant(x, t), "0 0 0 0 0 0 0");
            due("no bundle to kill", x.kill(t), false);
            due("no function", x.start(t, 0, 0), -1);
            due("no grant", x.withdraw(t, 0), false);
            for (int s = 0; s < 4; s++) due("no capability", x.revoke(t, s), false);
        }
        for (int t = 0; t < 4; t++) {
            x = new TenantHost(4);
            due("deploy " + t, deploy(x, t, "FUNC 1; GUARD 0 " + (20 * t) + "; RETURN"), 0);
            due("may not read", ends(x, t, 0, 0), "1 0");
            for (int s = 0; s < 4; s++) {
                due("again", deploy(x, t, "FUNC 1; PUSH 1; SEND " + s + "; SWAP; DROP; RETURN"), 0);
                due("slot is empty", ends(x, t, 0, 0), "0 5");
            }
        }
    }

    private static void firstLimits() {
        for (int t = 0; t < 4; t++) {
            TenantHost x = new TenantHost(16);
            due("deploy " + t, deploy(x, t, "FUNC 1; LOAD 0; ALLOC; RETURN; FUNC 1; JUMP 5"), 0);
            due("101 units", ends(x, t, 0, 101), "0 0");
            due("100 units", ends(x, t, 0, 100), "0 1");
            for (int k = 0; k < 3; k++) due("thread", x.start(t, 1, 0), k);
            due("a fourth", x.start(t, 1, 0), -1);
            due("8 ticks so far", x.tenant(t, 0), 8);
            for (int i = 0; i < 4; i++) x.run(200);
            due("192 more", x.run(192), 192);
            due("1000 ticks", tenant(x, t), "1000 100 3 3 1 2 0");
            due("no tick more", x.run(200), 3);
            due("QUOTA", x.thread(0, 1) + " " + x.thread(1, 1) + " " + x.thread(2, 1), "2 2 2");
        }
    }

    private static void noThreads() {
        TenantHost x = new TenantHost(4);
        for (int k = 0; k < 6; k++) due("thread " + k, thread(x, k), "-1 -1 -1 -1 -1");
        due("nothing to run", x.run(200), 0);
        due("nothing to run once", x.run(1), 0);
        deploy(x, 3, LOOP);
        due("the first is 0", x.start(3, 0, 0), 0);
        due("the others are not", thread(x, 1), "-1 -1 -1 -1 -1");
    }

    private static void emptyPending() {
        TenantHost x = new TenantHost(4);
        due("empty is FORM", x.deploy(0), 1);
        due("at 0", x.place(), 0);
        due("the first", new TenantHost(4).code(0, 1, 0), 1);
        due("no place yet", new TenantHost(4).place(), -1);
    }

    private static void grantNumbers() {
        TenantHost x = new TenantHost(4);
        for (int k = 0; k < 6; k++) {
            for (int t = 3; t >= 0; t--) due("grant " + k + " of " + t, x.grant(t, 15, ANYTHING), k);
        }
        for (int t = 0; t < 4; t++) due("six of " + t, x.tenant(t, 6), 6);
        x.withdraw(2, 1);
        due("the least that is not used", x.grant(2, 15, ANYTHING), 5);
        due("the same grant twice is two", x.tenant(2, 6), 6);
    }

    private static void patternDigits() {
        int good = 0;
        for (int pattern = -64; pattern < 1100; pattern++) {
            int first = pattern & 7, second = pattern >> 3 & 7, third = pattern >> 6;
            boolean one = first <= 5 && second == 7 && third == 7;
            boolean two = first <= 4 && second <= 5 && third == 7;
            boolean three = first <= 4 && second <= 4 && third >= 0 && third <= 5;
            TenantHost x = new TenantHost(4);
            due("pattern " + pattern, x.grant(0, 1, pattern), one || two || three ? 0 : -1);
            if (one || two || three) good++;
        }
        due("so many", good, 6 + 5 * 6 + 25 * 6);
        TenantHost x = host(4, "FUNC 1; GUARD 0 75; RETURN");
        x.grant(0, 1, 1 + 8 * 3 + 64 * 3);
        due("75 is not 1 3 3", ends(x, 0), "1 0");
        x.grant(0, 1, 3 + 8 * 1 + 64 * 3);
        due("75 is 3 1 3, the first lowest", ends(x, 0), "0 0");
    }

    private static void grantRefused() {
        for (int t : OUTSIDE_0_TO_3) nothingChanges("tenant " + t, -1, x -> x.grant(t, 15, ANYTHING));
        for (int actions : new int[] {0, -1, 16, 17, 31, MIN, MAX}) {
            nothingChanges("actions " + actions, -1, x -> x.grant(0, actions, ANYTHING));
        }
        int[] patterns = {511, 6 + 504, 5, 5 + 8 * 7, 5 + 8 * 5 + 448, 7 + 8 * 1 + 448, 1 + 56 + 64 * 4, 1 + 8 * 6 + 448,
            1 + 8 + 64 * 6, 1 + 8 * 5 + 64 * 5, 512, 513 + 504, -1, -512 + 504, MIN, MAX};
        for (int pattern : patterns) nothingChanges("pattern " + pattern, -1, x -> x.grant(0, 15, pattern));
        TenantHost x = new TenantHost(4);
        due("actions 1", x.grant(0, 1, ANYTHING), 0);
        due("actions 15", x.grant(0, 15, ANYTHING), 1);
    }

    private static void sixGrants() {
        TenantHost x = host(4, "FUNC 1; GUARD 0 9; RETURN", "FUNC 1; GUARD 0 9; RETURN");
        for (int k = 0; k < 6; k++) due("grant " + k, x.grant(0, 1, 3 + 504), k);
        due("a seventh", x.grant(0, 15, ANYTHING), -1);
        due("six", x.tenant(0, 6), 6);
        due("it was not given", ends(x, 0), "1 0");
        due("nor to the next tenant", ends(x, 1, 0, 0), "1 0");
        due("nor counted there", x.tenant(1, 6), 0);
        x.withdraw(0, 5);
        due("when there is room", x.grant(0, 15, ANYTHING), 5);
        due("it is given", ends(x, 0), "0 0");
    }

    /** A host whose tenants have six grants, no two of which imply the same; function 0 reads path 0, 1 counts there. */
    private static TenantHost sixEach() {
        String text = "FUNC 1; GUARD 0 0; RETURN; FUNC 1; GUARD 3 0; RETURN;"
            + " FUNC 1; GUARD 0 4; RETURN; FUNC 1; GUARD 3 4; RETURN";
        TenantHost x = host(16, text, text, text, text);
        for (int t = 0; t < 4; t++) {
            x.grant(t, 1, 0 + 504);
            x.grant(t, 8, 0 + 504);
            x.grant(t, 2, ANYTHING);
            x.grant(t, 1, 0 + 8 * 0 + 448);
            x.grant(t, 4, ANYTHING);
            x.grant(t, 8, 0 + 8 * 0 + 448);
        }
        return x;
    }

    /** The functions of a tenant of such a host that end well. */
    private static String mayDo(TenantHost x, int t) {
        String may = "";
        for (int f = 0; f < 4; f++) may += ends(x, t, f, 0).equals("0 0") ? f : "";
        return may;
    }

    private static void moveUp() {
        String[] left = {"123", "023", "0123", "013", "0123", "012"};
        for (int k = 0; k < 6; k++) {
            for (int t = 0; t < 4; t++) {
                TenantHost x = sixEach();
                due("withdraw " + k, x.withdraw(t, k), true);
                for (int other = 0; other < 4; other++) {
                    String want = other == t ? "5 " + left[k] : "6 0123";
                    due("tenant " + other + " without " + k + " of " + t, x.tenant(other, 6) + " " + mayDo(x, other), want);
                }
            }
        }
        TenantHost x = sixEach();
        x.withdraw(3, 0);
        x.withdraw(3, 0);
        due("two are gone", mayDo(x, 3), "23");
        due("the one that was 3 is 1", x.withdraw(3, 1), true);
        due("and gone", mayDo(x, 3), "3");
        due("the one that was 5 is 2", x.withdraw(3, 2), true);
        due("and gone too", x.tenant(3, 6) + " " + mayDo(x, 3), "2 ");
        x = sixEach();
        for (int i = 5; i >= 0; i--) due("withdraw the last " + i, x.withdraw(0, i), true);
        due("none left", x.tenant(0, 6) + " " + mayDo(x, 0), "0 ");
    }

    private static void noGrant() {
        for (int k : new int[] {-1, 2, 5, 6, MIN, MAX}) nothingChanges("grant " + k, false, x -> x.withdraw(0, k));
        nothingChanges("of a tenant without grants", false, x -> x.withdraw(2, 0));
        for (int t : OUTSIDE_0_TO_3) nothingChanges("tenant " + t, false, x -> x.withdraw(t, 0));
        TenantHost x = sixEach();
        due("a seventh", x.withdraw(0, 6), false);
        due("a sixth", x.withdraw(0, 5), true);
        due("no sixth", x.withdraw(0, 5), false);
    }

    private static void fullPending() {
        TenantHost x = new TenantHost(16);
        due("1", x.code(0, 1, 0), 1);
        for (int i = 2; i < 64; i++) due("" + i, x.code(23, 0, 0), i);
        due("64", x.code(12, 1, 0), 64);
        for (int i = 0; i < 3; i++) due("no more", x.code(24, -1, -1), -1);
        due("nothing changed", x.deploy(0), 0);
        due("empty then", x.code(0, 1, 0), 1);
        x.start(0, 0, 0);
        due("it runs", x.run(200), 200);
        x = host(16, ECHO, ECHO, ECHO, ECHO);
        for (int i = 1; i <= 64; i++) due("taken as it is", x.code(MIN + i, MAX, MIN), i);
        due("the 65th of these", x.code(0, 1, 0), -1);
        for (int t = 0; t < 4; t++) due("no tenant's bundle is touched", ends(x, t, 0, 7), "0 7");
        due("they are still there", x.deploy(0), 1);
        due("wrong from the first on", x.place(), 0);
    }

    private static void pendingTaken() {
        TenantHost x = host(16, LOOP);
        x.start(0, 0, 0);
        due("after OK", x.code(0, 1, 0), 1);
        due("REFUSED", x.deploy(4), -1);
        due("after REFUSED", x.code(1, 3, 0), 2);
        due("REFUSED again", x.deploy(-1), -1);
        due("after REFUSED again", x.code(21, 0, 0), 3);
        due("OK", x.deploy(1), 0);
        due("what was there before REFUSED", x.tenant(1, 5), 1);
        add(x, "FUNC 1; WHAT");
        due("FORM", x.deploy(1), 1);
        due("after FORM", x.code(0, 1, 0), 1);
        due("STACK", x.deploy(1), 2);
        due("after STACK", x.code(0, 1, 0), 1);
        due("BUSY", x.deploy(0), 3);
        due("after BUSY", x.code(0, 1, 0), 1);
        for (int i = 2; i <= 64; i++) x.code(23, 0, 0);
        due("REFUSED of 64", x.deploy(MAX), -1);
        due("still 64", x.code(23, 0, 0), -1);
        due("STACK of 64", x.deploy(1), 2);
        due("after STACK of 64", x.code(23, 0, 0), 1);
    }

    private static void deployRefused() {
        for (int t : OUTSIDE_0_TO_3) nothingChanges("deploy " + t, -1, x -> x.deploy(t));
    }

    private static void busy() {
        TenantHost x = host(16, "FUNC 1; LOAD 0; SEND 0; ADD; RETURN", "FUNC 1; YIELD; LOAD 0; RETURN", LOOP);
        x.capability(0, 0, 1, 0);
        x.start(0, 0, 0);
        due("at its first frame", deploy(x, 0, ECHO), 3);
        due("not at a frame that may come", deploy(x, 1, "FUNC 1; YIELD; LOAD 0; RETURN"), 0);
        x.run(3);
        due("the frame on top", deploy(x, 1, ECHO), 3);
        due("the frame below", deploy(x, 0, ECHO), 3);
        due("no frame", deploy(x, 2, LOOP), 0);
        x.run(4);
        due("its frame has gone", deploy(x, 1, LOOP), 0);
        due("the last frame", deploy(x, 0, ECHO), 3);
        x.run(2);
        due("ended", x.thread(0, 1), 0);
        due("a frame on a thread that has ended", deploy(x, 0, ECHO), 0);
        x = host(16, LOOP, LOOP);
        for (int k = 0; k < 6; k++) x.start(k < 5 && k != 1 && k != 3 ? 0 : 1, 0, 0);
        due("on the last thread", deploy(x, 1, ECHO), 3);
        x.kill(1);
        due("killed, but a frame is left", deploy(x, 1, ECHO), 3);
        x.run(100);
        due("killed and ended", deploy(x, 1, ECHO), 0);
        for (int last = 0; last < 6; last++) {
            x = host(16, LOOP, LOOP);
            x.limits(0, 1000, 0, 6);
            for (int k = 0; k < 6; k++) x.start(k == last ? 1 : 0, 0, 0);
            due("a frame on thread " + last + " alone", deploy(x, 1, ECHO), 3);
            due("it is one", x.tenant(1, 3), 1);
        }
        x = host(16, "FUNC 1; LOAD 0; SEND 0; ADD; RETURN", "FUNC 1; LOAD 0; SPAWN 1; RETURN; FUNC 1; JUMP 5");
        x.capability(0, 0, 1, 0);
        x.start(0, 0, 0);
        x.run(30);
        due("inherited", x.thread(1, 3), 3);
        due("an inherited tenant is no frame", deploy(x, 0, ECHO), 0);
    }

    private static void keepsBundle() {
        String text = "FUNC 1; LOAD 0; ALLOC; DROP; LOAD 0; RETURN; FUNC 1; PUSH 8; YIELD; RETURN";
        TenantHost x = host(16, text);
        due("before", ends(x, 30), "0 30");
        String kept = tenant(x, 0);
        due("it had", kept, "6 30 0 0 1 2 0");
        due("FORM", deploy(x, 0, "FUNC 1; PUSH 1; RETURN; WHAT"), 1);
        due("kept behind FORM", tenant(x, 0), kept);
        due("STACK", deploy(x, 0, "FUNC 1; PUSH 1; YIELD"), 2);
        due("kept behind STACK", tenant(x, 0), kept);
        due("empty", x.deploy(0), 1);
        due("kept behind an empty one", tenant(x, 0), kept);
        due("and runs", ends(x, 31), "0 31");
        due("its second function too", ends(x, 0, 1, 0), "0 8");
        x.start(0, 1, 0);
        x.run(3);
        due("BUSY", deploy(x, 0, "FUNC 1; PUSH 1; PUSH 2; PUSH 3; RETURN"), 3);
        x.run(200);
        due("goes on with what it had", x.thread(0, 2), 8);
        due("kill", x.kill(0), true);
        due("FORM of a killed one", deploy(x, 0, "WHAT"), 1);
        due("STACK of a killed one", deploy(x, 0, "FUNC 1"), 2);
        due("stays killed", x.tenant(0, 4), 2);
        due("one without a bundle", deploy(x, 1, "FUNC 1"), 2);
        due("has none", tenant(x, 1), "0 0 0 0 0 0 0");
    }

    private static void deployed() {
        TenantHost x = host(16, "FUNC 1; LOAD 0; ALLOC; RETURN; FUNC 1; JUMP 5");
        x.grant(0, 1, ANYTHING);
        x.capability(0, 1, 0, 0);
        x.limits(0, 20, 40, 1);
        due("39 units", ends(x, 39), "0 1");
        x.start(0, 1, 0);
        x.kill(0);
        x.run(9);
        due("killed", tenant(x, 0), "4 0 0 0 2 2 1");
        due("OK", deploy(x, 0, "FUNC 1; LOAD 0; ALLOC; RETURN"), 0);
        due("as new, but its grants", tenant(x, 0), "0 0 0 0 1 1 1");
        due("units are free again up to the limit", ends(x, 41) + ", " + ends(x, 40), "0 0, 0 1");
        due("not killed: it starts", x.start(0, 0, 0), 0);
        due("the limit of threads stays", x.start(0, 0, 0), -1);
        x.run(200);
        due("held", tenant(x, 0), "12 40 0 0 1 1 1");
        due("OK over one that lives", deploy(x, 0, "FUNC 1; JUMP 1"), 0);
        due("no ticks, no units", tenant(x, 0), "0 0 0 0 1 1 1");
        x.start(0, 0, 0);
        due("the limit of ticks stays", x.run(200), 21);
        due("the capability stays", x.revoke(0, 1), true);
        due("can be killed again", x.kill(0), true);
        due("a shorter one", deploy(x, 0, "FUNC 1; PUSH 2; RETURN"), 0);
        due("runs", ends(x, 0), "0 2");
        due("the function that there was has gone", x.start(0, 1, 0), -1);
    }

    private static void firstWrong() {
        String[][] table = {
            {"WHAT", "0"}, {"PUSH 1; RETURN", "0"}, {"RETURN; WHAT", "0"}, {"JUMP 99; FUNC 1", "0"},
            {"FUNC 0", "0"}, {"FUNC 5; WHAT", "0"}, {"FUNC 1; WHAT; FUNC 7", "1"}, {"FUNC 1; FUNC 7; WHAT", "1"},
            {"FUNC 1; DROP; DROP; WHAT", "3"}, {"FUNC 1; FUNC 1; FUNC 1; FUNC 1; PUSH 1; RETURN; FUNC 1", "6"},
            {"FUNC 1; LOAD 1; FUNC 2", "1"}, {"FUNC 2; LOAD 1; FUNC 1; LOAD 1", "3"}, {"FUNC 4; STORE 3; STORE 4", "2"},
            {"FUNC 1; JUMP 2; CALL 1", "2"}, {"FUNC 1; PRIV 1; CALL 2; FUNC 1", "2"}, {"FUNC 1; SPAWN 0; SPAWN 1; FUNC 0", "3"},
            {"FUNC 1; SEND 3; SEND 4", "2"}, {"FUNC 1; SEND 0; SEND -1", "2"}, {"FUNC 1; GUARD 3 83; GUARD 3 84", "2"},
            {"FUNC 1; GUARD 0 0; GUARD 4 0", "2"}, {"FUNC 1; GUARD 0 0; GUARD 0 -1", "2"}, {"FUNC 1; ZERO 1; ZERO 0", "2"},
            {"FUNC 1; JUMP 2; JUMP 3", "2"}, {"FUNC 1; JUMP 2; FUNC 1", "1"}, {"FUNC 1; FUNC 1; JUMP 2; JUMP 1", "3"},
            {"FUNC 1; FUNC 1; FUNC 1; FUNC 1; FUNC 9", "4"}, {"FUNC 1; CALL 3; FUNC 1; FUNC 1; FUNC 1; FUNC 1", "5"}};
        for (String[] row : table) due(row[0], judged(row[0]), "1 at " + row[1]);
        for (int at = 1; at < 64; at++) {
            StringBuilder text = new StringBuilder("FUNC 1");
            for (int i = 1; i < 64; i++) text.append(i == at || i == 63 ? "; WHAT" : "; YIELD");
            due("wrong at " + at, judged(text.toString()), "1 at " + at);
        }
    }

    private static void emptyPlace() {
        TenantHost x = new TenantHost(4);
        due("empty", x.deploy(3), 1);
        due("place", x.place(), 0);
        due("WHAT behind", deploy(x, 3, "FUNC 1; YIELD; WHAT"), 1);
        due("place behind", x.place(), 2);
        due("empty again", x.deploy(3), 1);
        due("place again", x.place(), 0);
    }

    private static void firstUnsound() {
        String[][] table = {
            {"FUNC 1", "0"}, {"FUNC 1; DROP; FUNC 1", "1"}, {"FUNC 1; FUNC 1; DROP", "0"}, {"FUNC 1; YIELD; YIELD", "2"},
            {"FUNC 1; PUSH 1; JUMP 1", "1"}, {"FUNC 1; YIELD; PUSH 1; JUMP 2", "2"},
            {"FUNC 1; PUSH 1; ZERO 4; DROP; YIELD", "3"},
            {"FUNC 1; JUMP 3; JUMP 2; DROP; JUMP 3", "3"}, {"FUNC 1; PUSH 1; PUSH 1; ZERO 1; RETURN", "1"},
            {"FUNC 1; PUSH 1; RETURN; FUNC 1; RETURN; FUNC 1; RETURN", "4"},
            {"FUNC 1; JUMP 5; YIELD; DROP; JUMP 2; PUSH 1; PUSH 1; PUSH 1; JUMP 2", "2"},
            {"FUNC 1; JUMP 4; DROP; JUMP 3; JUMP 5; JUMP 2", "2"},
            {"FUNC 1; JUMP 4; YIELD; JUMP 3; PUSH 1; ZERO 2; PUSH 1; JUMP 2", "2"}};
        for (String[] row : table) due(row[0], judged(row[0]), "2 at " + row[1]);
        for (int at = 1; at < 64; at++) {
            StringBuilder text = new StringBuilder("FUNC 1");
            for (int i = 1; i < 64; i++) text.append(i == at || i == 63 ? "; DROP" : "; YIELD");
            due("does not fit at " + at, judged(text.toString()), "2 at " + at);
        }
        // the way leads from jump to jump through the whole bundle, and back to the first of them
        StringBuilder back = new StringBuilder("FUNC 1; JUMP 63; DROP");
        for (int i = 3; i < 64; i++) back.append("; JUMP ").append(i - 1);
        due("far away", judged(back.toString()), "2 at 2");
    }

    private static void latestDeploy() {
        TenantHost x = new TenantHost(4);
        due("none yet", x.place(), -1);
        due("FORM", deploy(x, 0, "FUNC 1; YIELD; YIELD; WHAT"), 1);
        for (int i = 0; i < 3; i++) due("asked again", x.place(), 3);
        add(x, "FUNC 1; JUMP 1");
        x.kill(0);
        x.grant(0, 1, ANYTHING);
        x.run(9);
        due("other calls leave it", x.place(), 3);
        due("OK", x.deploy(0), 0);
        due("behind OK", x.place(), -1);
        due("STACK", deploy(x, 0, "FUNC 1; YIELD"), 2);
        due("behind STACK", x.place(), 1);
        due("OK again", deploy(x, 0, LOOP), 0);
        due("behind OK again", x.place(), -1);
    }

    private static void deployOrder() {
        TenantHost x = host(16, LOOP);
        x.start(0, 0, 0);
        due("REFUSED before all", deploy(x, 4, "FUNC 1; DROP; WHAT"), -1);
        due("BUSY before FORM", x.deploy(0), 3);
        due("BUSY before STACK", deploy(x, 0, "FUNC 1; DROP"), 3);
        due("BUSY of a good one", deploy(x, 0, ECHO), 3);
        due("BUSY of an empty one", x.deploy(0), 3);
        due("REFUSED of an empty one", x.deploy(-1), -1);
        due("FORM before STACK", deploy(x, 1, "FUNC 1; DROP; WHAT"), 1);
        due("its place is that of FORM", x.place(), 2);
        due("STACK", deploy(x, 1, "FUNC 1; DROP; YIELD"), 2);
        due("OK", deploy(x, 1, ECHO), 0);
    }

    private static void placeBehind() {
        for (int tenant : new int[] {0, -1, 4, MIN, MAX}) {
            TenantHost x = host(16, LOOP);
            x.start(0, 0, 0);
            int want = tenant == 0 ? 3 : -1;
            deploy(x, 1, "FUNC 1; YIELD; WHAT");
            due("FORM", x.place(), 2);
            add(x, "FUNC 1; WHAT");
            due("deploy " + tenant, x.deploy(tenant), want);
            due("behind FORM", x.place(), -1);
            x.deploy(1);
            deploy(x, 1, "FUNC 1; YIELD; YIELD");
            due("STACK", x.place(), 2);
            due("deploy of an empty one " + tenant, x.deploy(tenant), want);
            due("behind STACK", x.place(), -1);
        }
    }

    private static void limitRange() {
        TenantHost x = host(16, "FUNC 1; LOAD 0; ALLOC; RETURN; FUNC 1; JUMP 5");
        due("all 0", x.limits(0, 0, 0, 0), true);
        due("no thread", x.start(0, 0, 0), -1);
        due("one thread", x.limits(0, 0, 0, 1), true);
        due("no tick", ends(x, 0), "2 0");
        due("four ticks", x.limits(0, 4, 0, 1), true);
        due("no unit", ends(x, 1), "0 0");
        due("all 1000000", x.limits(0, 1000000, 1000000, 1000000), true);
        due("1000001 units", ends(x, 1000001), "0 0");
        due("1000000 units", ends(x, 1000000), "0 1");
        for (int k = 0; k < 6; k++) due("thread " + k, x.start(0, 1, 0), k);
        due("no seventh", x.start(0, 1, 0), -1);
        for (int i = 0; i < 10; i++) due("ticks go on", x.run(200), 200);
        due("ticks", x.tenant(0, 0), 2012);
        due("999999", x.limits(0, 999999, 999999, 999999), true);
        due("each its own", x.limits(0, 2013, 1000000, 7), true);
        due("one tick and QUOTA", x.run(200), 7);
    }

    private static void limitsRefused() {
        for (int bad : new int[] {-1, 1000001, MIN, MAX}) {
            nothingChanges("ticks " + bad, false, x -> x.limits(0, bad, 2, 1));
            nothingChanges("units " + bad, false, x -> x.limits(0, 2, bad, 1));
            nothingChanges("threads " + bad, false, x -> x.limits(0, 2, 2, bad));
        }
        for (int t : OUTSIDE_0_TO_3) nothingChanges("tenant " + t, false, x -> x.limits(t, 2, 2, 1));
        TenantHost x = host(16, "FUNC 1; LOAD 0; ALLOC; RETURN; FUNC 1; JUMP 5");
        due("refused", x.limits(0, 5, 5, 1000001), false);
        due("100 units still", ends(x, 100), "0 1");
        for (int k = 0; k < 3; k++) due("three threads still", x.start(0, 1, 0), k);
        due("no fourth", x.start(0, 1, 0), -1);
    }

    private static void newCapability() {
        String four = "FUNC 1; PUSH 10; RETURN; FUNC 1; PUSH 11; RETURN; FUNC 1; PUSH 12; RETURN; FUNC 1; PUSH 13; RETURN";
        for (int to = 0; to < 4; to++) {
            for (int f = 0; f < 4; f++) {
                TenantHost x = new TenantHost(16);
                int from = 3 - to;
                due("called", deploy(x, to, four), 0);
                due("caller", deploy(x, from, "FUNC 1; PUSH 1; SEND " + f + "; PUSH 100; MUL; ADD; RETURN"), 0);
                due("to " + to + " " + f, x.capability(from, f, to, f), true);
                due("leads to " + to + " " + f, ends(x, from, 0, 0), "0 " + (10 + f));
                due("the one before is revoked", x.revoke(from, f), true);
                due("code 4", ends(x, from, 0, 0), "0 400");
                due("a new one", x.capability(from, f, to, 3 - f), true);
                due("leads elsewhere", ends(x, from, 0, 0), "0 " + (13 - f));
            }
        }
        TenantHost x = host(16, "FUNC 1; PUSH 1; SEND 0; PUSH 100; MUL; ADD; RETURN");
        due("to a function that is not there", x.capability(0, 0, 1, 3), true);
        due("code 3", ends(x, 0), "0 300");
        due("to itself", x.capability(0, 0, 0, 0), true);
        due("of one without a bundle", x.capability(3, 3, 3, 3), true);
    }

    private static void capabilityRefused() {
        for (int bad : OUTSIDE_0_TO_3) {
            nothingChanges("tenant " + bad, false, x -> x.capability(bad, 0, 2, 0));
            nothingChanges("slot " + bad, false, x -> x.capability(0, bad, 2, 0));
            nothingChanges("to " + bad, false, x -> x.capability(0, 0, bad, 0));
            nothingChanges("function " + bad, false, x -> x.capability(0, 0, 2, bad));
            TenantHost x = new TenantHost(4);
            x.capability(0, 0, bad, 0);
            x.capability(0, 0, 2, bad);
            due("none is there", x.revoke(0, 0), false);
            x.capability(0, 0, 1, 0);
            x.revoke(0, 0);
            x.capability(0, 0, bad, 0);
            x.capability(0, 0, 2, bad);
            due("the revoked one is revoked", x.revoke(0, 0), false);
        }
    }

    private static void revoke() {
        for (int t = 0; t < 4; t++) {
            for (int s = 0; s < 4; s++) {
                TenantHost x = new TenantHost(4);
                due("none in " + t + " " + s, x.revoke(t, s), false);
                x.capability(t, s, 3 - t, 0);
                for (int other = 0; other < 16; other++) {
                    if (other != 4 * t + s) due("none in another slot", x.revoke(other / 4, other % 4), false);
                }
                due("revoked", x.revoke(t, s), true);
                due("it is revoked", x.revoke(t, s), false);
                x.capability(t, s, 3 - t, 0);
                due("a new one is revoked", x.revoke(t, s), true);
            }
        }
        for (int bad : OUTSIDE_0_TO_3) {
            nothingChanges("tenant " + bad, false, x -> x.revoke(bad, 0));
            nothingChanges("slot " + bad, false, x -> x.revoke(0, bad));
        }
        nothingChanges("an empty slot", false, x -> x.revoke(0, 1));
        TenantHost x = host(16, "FUNC 1; PUSH 1; SEND 0; DROP; RETURN", "FUNC 1; YIELD; PUSH 6; RETURN");
        x.capability(0, 0, 1, 0);
        x.start(0, 0, 0);
        x.run(3);
        due("under way", x.revoke(0, 0), true);
        x.run(200);
        due("it comes back", thread(x, 0), "0 0 6 0 0");
        due("not the next", ends(x, 0), "0 0");
    }

    private static void kill() {
        for (int t : OUTSIDE_0_TO_3) nothingChanges("tenant " + t, false, x -> x.kill(t));
        nothingChanges("no bundle", false, x -> x.kill(3));
        TenantHost x = host(16, ECHO, ECHO);
        due("a bundle", x.kill(0), true);
        due("killed", tenant(x, 0), "0 0 0 0 2 1 0");
        due("it was killed", x.kill(0), false);
        due("still killed", x.tenant(0, 4), 2);
        due("not the other", x.tenant(1, 4), 1);
        due("after a new bundle", deploy(x, 0, ECHO), 0);
        due("again", x.kill(0), true);
        due("after a bundle that was not taken", deploy(x, 2, "FUNC 1"), 2);
        due("there is none", x.kill(2), false);
        due("it has no bundle", x.tenant(2, 4), 0);
    }

    private static void unitsOfKilled() {
        String text = "FUNC 1; PUSH 20; ALLOC; YIELD; RETURN";
        TenantHost x = host(16, text, text);
        ends(x, 0);
        ends(x, 1, 0, 0);
        due("held", x.tenant(0, 1), 20);
        x.kill(0);
        due("at once, if it has no frame", x.tenant(0, 1), 0);
        due("not those of others", x.tenant(1, 1), 20);
        x = host(16, text);
        x.start(0, 0, 0);
        x.start(0, 0, 0);
        x.run(8);
        x.kill(0);
        due("two frames", tenant(x, 0), "8 40 2 2 2 1 0");
        x.run(1);
        due("one frame", tenant(x, 0), "9 40 1 1 2 1 0");
        x.run(1);
        due("none", tenant(x, 0), "10 0 0 0 2 1 0");
        // a frame that lies below that of another tenant counts, and so does one on another tenant's thread
        x = host(16, "FUNC 1; PUSH 9; ALLOC; SEND 0; ADD; RETURN", "FUNC 1; PUSH 8; ALLOC; YIELD; RETURN");
        x.capability(0, 0, 1, 0);
        x.start(0, 0, 0);
        x.run(8);
        x.kill(0);
        x.kill(1);
        due("below", x.tenant(0, 1), 9);
        due("on the thread of another", x.tenant(1, 1), 8);
        x.run(1);
        due("its frame has returned", x.tenant(1, 1), 0);
        due("below still", x.tenant(0, 1), 9);
        x.run(2);
        due("ended", x.tenant(0, 1), 0);
        // by an exception
        x = host(16, "FUNC 1; LOAD 0; SEND 0; ADD; RETURN", "FUNC 1; PUSH 8; ALLOC; JUMP 3");
        x.capability(0, 0, 1, 0);
        x.start(0, 0, 0);
        x.run(7);
        x.kill(1);
        due("before the poll", x.tenant(1, 1), 8);
        x.run(1);
        due("taken away", tenant(x, 1), "4 0 0 0 2 1 0");
        x = host(16, text);
        ends(x, 0);
        due("one that lives keeps them", x.tenant(0, 1), 20);
        for (int t = 0; t < 4; t++) {
            x = host(16, text, text, text, text);
            for (int k = 0; k < 4; k++) x.start(k, 0, 0);
            x.run(16);
            x.kill(t);
            due("each holds some", x.tenant(0, 1) + x.tenant(1, 1) + x.tenant(2, 1) + x.tenant(3, 1), 80);
            x.run(4);
            for (int k = 0; k < 4; k++) due("tenant " + k + " when " + t + " is killed", x.tenant(k, 1), k == t ? 0 : 20);
        }
    }

    private static void start() {
        TenantHost x = host(16, "FUNC 1; LOAD 0; RETURN; FUNC 1; LOAD 0; PUSH 1; ADD; RETURN", LOOP);
        due("0", x.start(0, 0, MIN), 0);
        due("1", x.start(0, 1, MAX), 1);
        due("2", x.start(1, 0, 0), 2);
        due("as they begin", thread(x, 0) + ", " + thread(x, 1) + ", " + thread(x, 2), "1 -1 0 1 1, 1 -1 0 1 0, 1 -1 0 2 0");
        x.run(40);
        due("argument", x.thread(0, 2), MIN);
        due("function", x.thread(1, 2), MIN);
        due("a number that is free", x.start(1, 0, 0), 0);
        due("the next", x.start(1, 0, 0), 1);
        due("then one that was never used", x.start(0, 0, 0), 3);
    }

    private static void startRefused() {
        for (int t : OUTSIDE_0_TO_3) nothingChanges("tenant " + t, -1, x -> x.start(t, 0, 0));
        nothingChanges("no bundle", -1, x -> x.start(3, 0, 0));
        for (int f : new int[] {-1, 1, 2, 4, MIN, MAX}) nothingChanges("function " + f, -1, x -> x.start(2, f, 0));
        TenantHost x = host(16, "FUNC 1; PUSH 1; RETURN; FUNC 1; PUSH 2; RETURN", ECHO);
        due("its last function", ends(x, 0, 1, 0), "0 2");
        due("none behind it", x.start(0, 2, 0), -1);
        x.kill(0);
        for (int f = 0; f < 3; f++) due("killed", x.start(0, f, 0), -1);
        due("not the other", x.start(1, 0, 0), 0);
    }

    private static void startLimit() {
        TenantHost x = host(16, "FUNC 1; LOAD 0; RETURN; FUNC 1; JUMP 4", LOOP);
        for (int limit = 0; limit < 6; limit++) {
            x.limits(0, 1000, 0, limit);
            due("as many as " + limit, x.start(0, 1, 0), -1);
            x.limits(0, 1000, 0, limit + 1);
            due("fewer than " + (limit + 1), x.start(0, 1, 0), limit);
        }
        x = host(16, "FUNC 1; LOAD 0; RETURN; FUNC 1; JUMP 4", LOOP);
        for (int k = 0; k < 3; k++) due("three", x.start(0, k == 1 ? 0 : 1, 0), k);
        due("a fourth", x.start(0, 0, 0), -1);
        x.limits(0, 1000, 0, 1);
        due("more than its limit", x.start(0, 0, 0), -1);
        due("another tenant", x.start(1, 0, 0), 3);
        x.limits(0, 1000, 0, 3);
        x.run(60);
        due("one has ended", x.tenant(0, 2), 2);
        due("so there is room", x.start(0, 1, 0), 1);
        // a frame on another's thread is no thread, a thread that spawned is one
        x = host(16, "FUNC 1; LOAD 0; SEND 0; ADD; RETURN", "FUNC 1; LOAD 0; SPAWN 1; DROP; JUMP 4; FUNC 1; JUMP 6");
        x.capability(0, 0, 1, 0);
        x.limits(1, 1000, 0, 2);
        x.start(0, 0, 0);
        x.run(60);
        due("a frame and a thread", tenant(x, 1).substring(3), "0 1 2 1 2 0");
        due("the second", x.start(1, 1, 0), 2);
        due("the third", x.start(1, 1, 0), -1);
    }

    private static void startSix() {
        TenantHost x = host(16, LOOP, ECHO);
        x.limits(0, 1000, 0, 1000000);
        for (int k = 0; k < 5; k++) due("thread " + k, x.start(0, 0, 0), k);
        due("the sixth", x.start(1, 0, 4), 5);
        due("a seventh", x.start(0, 0, 0), -1);
        due("a seventh of another", x.start(1, 0, 0), -1);
        x.run(100);
        due("one has ended", thread(x, 5), "0 0 4 0 0");
        due("its number", x.start(0, 0, 0), 5);
        due("and again none", x.start(1, 0, 0), -1);
    }

    private static void stepRange() {
        TenantHost x = host(16, LOOP);
        x.start(0, 0, 0);
        for (int n : new int[] {-1, -200, 201, 202, 1000, MIN, MAX}) {
            due("run " + n, x.run(n), 0);
            due("no tick with " + n, x.tenant(0, 0), 0);
        }
        due("run 0", x.run(0), 0);
        due("run 1", x.run(1), 1);
        due("run 199", x.run(199), 199);
        due("run 200", x.run(200), 200);
        due("ticks", x.tenant(0, 0), 400);
        x.run(15);
        x.start(0, 0, 0);
        x.run(201);
        x.run(-1);
        x.run(0);
        due("steps that are not made take no turn", turn(x), 0);
        x.run(1);
        due("one of the quantum was left", turn(x), 1);
    }

    private static void fewerSteps() {
        TenantHost x = host(16, ECHO);
        due("none has begun", x.run(200), 0);
        x.start(0, 0, 1);
        x.start(0, 0, 2);
        due("six in all", x.run(200), 6);
        due("all have ended", x.run(200), 0);
        x.start(0, 0, 1);
        due("just enough", x.run(3), 3);
        due("ended", thread(x, 0), "0 0 1 0 0");
        x.start(0, 0, 1);
        due("one too few", x.run(2), 2);
        due("not ended", thread(x, 0), "1 -1 0 1 1");
        due("the last", x.run(200), 1);
        x = host(16, "FUNC 1; LOAD 0; SPAWN 1; RETURN; FUNC 1; PUSH 1; RETURN");
        x.start(0, 0, 0);
        due("with a thread that was spawned", x.run(200), 7);
        x.start(0, 0, 0);
        x.kill(0);
        due("a step that ends in KILLED counts", x.run(200), 1);
        x = host(16, ECHO);
        x.limits(0, 2, 0, 3);
        x.start(0, 0, 0);
        due("a step that ends in QUOTA counts", x.run(200), 3);
    }

    private static void tenantAnswers() {
        TenantHost x = new TenantHost(16);
        due("no bundle", x.tenant(3, 4) + " " + x.tenant(3, 5), "0 0");
        for (int n = 1; n <= 4; n++) {
            StringBuilder text = new StringBuilder("FUNC 1; PUSH 1; RETURN");
            for (int f = 1; f < n; f++) text.append("; FUNC 1; PUSH 1; RETURN");
            due("deploy", deploy(x, 3, text.toString()), 0);
            due("functions", x.tenant(3, 4) + " " + x.tenant(3, 5), "1 " + n);
        }
        x.kill(3);
        due("killed, with its functions", x.tenant(3, 4) + " " + x.tenant(3, 5), "2 4");
        for (int k = 0; k < 6; k++) x.grant(3, 1, ANYTHING);
        due("grants of a killed one", x.tenant(3, 6), 6);
        x = host(15, "FUNC 1; LOAD 0; CALL 0; RETURN");
        for (int k = 0; k < 3; k++) x.start(0, 0, 0);
        x.run(3 * 15);
        due("three threads with many frames", x.tenant(0, 2) + " " + x.tenant(0, 3), "3 18");
        x.run(200);
        due("none", x.tenant(0, 2) + " " + x.tenant(0, 3), "0 0");
    }

    private static void noSuchTenantOrWhat() {
        TenantHost x = busyHost();
        for (int t : OUTSIDE_0_TO_3) for (int what = 0; what < 7; what++) due("tenant " + t, x.tenant(t, what), -1);
        for (int t = 0; t < 4; t++) {
            for (int what : new int[] {-1, 7, 8, MIN, MAX}) due("what " + what, x.tenant(t, what), -1);
            for (int what = 0; what < 7; what++) due("what " + what + " of " + t, x.tenant(t, what) >= 0, true);
        }
        due("neither", x.tenant(4, 7), -1);
    }

    private static void threadAnswers() {
        TenantHost x = host(16, "FUNC 1; LOAD 0; SEND 0; ADD; RETURN; FUNC 1; LOAD 0; THROW", ECHO, LOOP, LOOP);
        x.capability(0, 0, 1, 0);
        x.start(0, 0, 9);
        due("begun", thread(x, 0), "1 -1 0 1 1");
        x.run(3);
        due("on its way", thread(x, 0), "2 -1 0 3 1");
        x.run(200);
        due("returned", thread(x, 0), "0 0 9 0 0");
        x.start(0, 1, 0);
        due("begun again, what was returned is 0", thread(x, 0), "1 -1 0 1 1");
        x.run(200);
        due("by an exception", thread(x, 0), "0 10 0 0 0");
        x.start(3, 0, 0);
        due("tenant 3", thread(x, 0), "1 -1 0 8 1");
        x.start(0, 0, -1);
        x.run(16);
        due("the turn has gone on", thread(x, 0), "1 -1 0 8 0");
        due("to the next", thread(x, 1), "1 -1 0 1 1");
        x.run(200);
        due("returned -1, with code 0", thread(x, 1), "0 0 -1 0 0");
    }

    private static void noSuchThreadOrWhat() {
        TenantHost x = host(16, ECHO, LOOP);
        x.start(0, 0, 5);
        x.start(1, 0, 5);
        x.run(9);
        for (int k : new int[] {-1, 6, 7, MIN, MAX}) due("number " + k, thread(x, k), "-1 -1 -1 -1 -1");
        for (int k = 2; k < 6; k++) due("never used " + k, thread(x, k), "-1 -1 -1 -1 -1");
        for (int what : new int[] {-1, 5, 6, MIN, MAX}) {
            for (int k = 0; k < 2; k++) due("what " + what, x.thread(k, what), -1);
        }
        due("used and ended", thread(x, 0), "0 0 5 0 0");
        due("used", thread(x, 1), "1 -1 0 2 1");
        due("neither", x.thread(6, 5), -1);
    }

    private static void noSuchPath() {
        for (int path : new int[] {0, 83}) {
            TenantHost x = host(16, "FUNC 1; PUSH 5; GUARD 1 " + path + "; PUSH 0; RETURN");
            x.grant(0, 2, ANYTHING);
            due("written", ends(x, 0), "0 0");
            for (int bad : new int[] {-1, 84, 85, 128, MIN, MAX}) due("no path " + bad, x.resource(bad), 0);
            due("path " + path, x.resource(path), 5);
        }
    }

    private static void noteNumbers() {
        TenantHost x = host(16, "FUNC 1; GUARD 3 20; DROP; GUARD 3 21; DROP; GUARD 3 22; DROP; GUARD 3 23; DROP;"
            + " GUARD 3 24; DROP; GUARD 3 25; DROP; GUARD 3 26; DROP; GUARD 3 27; DROP; GUARD 3 28; DROP; GUARD 3 29; RETURN");
        x.grant(0, 8, ANYTHING);
        x.start(0, 0, 0);
        x.run(1);
        for (int n = 0; n <= 10; n++) {
            for (int k = 0; k < 8; k++) {
                int want = k < n ? 20 + n - 1 - k + 3 * 128 + 2048 : -1;
                due("note " + k + " of " + n, x.audit(k), want);
            }
            x.run(2);
        }
        for (int k : new int[] {-1, 8, 9, MIN, MAX}) due("no note " + k, x.audit(k), -1);
    }

    private static void noteParts() {
        for (int t = 0; t < 4; t++) {
            for (int action = 0; action < 4; action++) {
                for (int path : new int[] {0, 83}) {
                    TenantHost x = new TenantHost(16);
                    deploy(x, t, "FUNC 1; PUSH 1; GUARD " + action + " " + path + "; PUSH 1; RETURN");
                    ends(x, t, 0, 0);
                    due("denied", x.audit(0), path + 128 * action + 512 * t);
                    x.grant(t, 1 << action, ANYTHING);
                    ends(x, t, 0, 0);
                    due("allowed", x.audit(0), path + 128 * action + 512 * t + 2048);
                    due("both are noted", x.audit(1), path + 128 * action + 512 * t);
                }
            }
        }
        TenantHost x = host(16, "FUNC 1; LOAD 0; SEND 0; ADD; RETURN", "FUNC 1; GUARD 0 6; RETURN");
        x.capability(0, 0, 1, 0);
        x.grant(1, 1, ANYTHING);
        ends(x, 0);
        due("the top frame's tenant, though another is missing", x.audit(0), 6 + 512);
    }

    private static void noNote() {
        TenantHost x = new TenantHost(4);
        for (int k = -2; k < 10; k++) due("of a new object " + k, x.audit(k), -1);
        for (int k : new int[] {MIN, MAX}) due("far away " + k, x.audit(k), -1);
        x = host(4, "FUNC 1; GUARD 0 0; RETURN");
        ends(x, 0);
        due("a note of 0 is one", x.audit(0), 0);
        for (int k = 1; k < 9; k++) due("behind the only one " + k, x.audit(k), -1);
    }
}
