import java.util.ArrayDeque;
import java.util.ArrayList;
import java.util.Arrays;
import java.util.Collections;
import java.util.Deque;
import java.util.List;
import java.util.Random;
import java.util.Set;
import java.util.TreeSet;

/**
 * Long runs of calls, the same ones each time, on the class and on a second telling of the document that is
 * written with objects and lists: every answer of the two must be the same. No run has more than 512 calls.
 */
public final class ModelRuns {
    private static final int RUNS = 12000, MOST_CALLS = 512;

    private final TenantHost x;
    private final Model m;
    private final Random random;
    private final List<String> log = new ArrayList<>();
    private int calls = 0;
    private boolean same = true;

    private ModelRuns(int seed) {
        random = new Random(seed);
        int quantum = random.nextInt(20) - 1;
        x = new TenantHost(quantum);
        m = new Model(quantum);
        log.add("run " + seed + " with quantum " + quantum);
    }

    public static void main(String[] args) {
        int wrong = 0;
        int[] seen = new int[30];
        for (int seed = 0; seed < RUNS && wrong < 5; seed++) {
            ModelRuns run = new ModelRuns(seed);
            run.go(seed % 10 == 9, seen);
            if (!run.same) {
                wrong++;
                for (String line : run.log) System.out.println(line);
            }
        }
        // the runs are worth something only if they come to every end of a thread and every answer of deploy
        for (int what : new int[] {0, 1, 2, 3, 6, 10, 11, 25, 26, 27, 28, 29}) {
            if (seen[what] == 0) {
                wrong++;
                System.out.println("never seen: " + (what < 26 ? "a thread's code " + what : "deploy " + (what - 26)));
            }
        }
        System.out.println("ModelRuns: " + RUNS + " runs, " + wrong + " wrong; seen " + Arrays.toString(seen));
        if (wrong != 0) System.exit(1);
    }

    private void go(boolean wild, int[] seen) {
        for (int t = 0; t < 4; t++) {
            if (random.nextInt(4) > 0) load(t);
            ask(new int[] {0, t, 15, random.nextInt(3) == 0 ? 509 : pattern(random), 0});
            for (int s = 0; s < 3; s++) ask(new int[] {6, t, random.nextInt(4), random.nextInt(4), random.nextInt(3)});
        }
        int questions = 7 * 4 + 5 * 6 + 84 + 8;
        while (same && calls + 70 + questions < MOST_CALLS) {
            int[] call = wild && random.nextInt(3) == 0 ? wildCall(random) : ordinaryCall(random);
            int got = call[0] == 15 ? load(call[1]) : ask(call);
            if ((call[0] == 3 || call[0] == 15) && got >= 0) seen[26 + got]++;
            for (int i = random.nextInt(3); i > 0; i--) ask(question());
        }
        for (int t = 0; t < 4; t++) for (int what = 0; what < 7; what++) ask(new int[] {11, t, what, 0, 0});
        for (int k = 0; k < 6; k++) for (int what = 0; what < 5; what++) ask(new int[] {12, k, what, 0, 0});
        for (int p = 0; p < 84; p++) ask(new int[] {13, p, 0, 0, 0});
        for (int k = 0; k < 8; k++) ask(new int[] {14, k, 0, 0, 0});
        for (Strand s : m.strands) if (s != null && s.ended) seen[s.code]++;
    }

    private int load(int tenant) {
        for (int[] c : bundle(random)) ask(new int[] {2, c[0], c[1], c[2], 0});
        int answer = ask(new int[] {3, tenant, 0, 0, 0});
        ask(new int[] {4, 0, 0, 0, 0});
        return answer;
    }

    private int[] question() {
        int kind = random.nextInt(10);
        if (kind < 4) return new int[] {12, random.nextInt(6), random.nextInt(5), 0, 0};
        if (kind < 8) return new int[] {11, random.nextInt(4), random.nextInt(7), 0, 0};
        return kind == 8 ? new int[] {14, random.nextInt(8), 0, 0, 0} : new int[] {13, path(random), 0, 0, 0};
    }

    private int ask(int[] call) {
        int got = answer(x, call);
        int want = answer(m, call);
        calls++;
        if (same) {
            log.add("  " + NAMES[call[0]] + Arrays.toString(Arrays.copyOfRange(call, 1, 5)) + " answered " + got
                + (got == want ? "" : ", due is " + want));
        }
        same = same && got == want;
        return got;
    }

    private static final String[] NAMES = {"grant", "withdraw", "code", "deploy", "place", "limits", "capability",
        "revoke", "start", "run", "kill", "tenant", "thread", "resource", "audit"};

    private static int answer(TenantHost x, int[] c) {
        switch (c[0]) {
            case 0: return x.grant(c[1], c[2], c[3]);
            case 1: return x.withdraw(c[1], c[2]) ? 1 : 0;
            case 2: return x.code(c[1], c[2], c[3]);
            case 3: return x.deploy(c[1]);
            case 4: return x.place();
            case 5: return x.limits(c[1], c[2], c[3], c[4]) ? 1 : 0;
            case 6: return x.capability(c[1], c[2], c[3], c[4]) ? 1 : 0;
            case 7: return x.revoke(c[1], c[2]) ? 1 : 0;
            case 8: return x.start(c[1], c[2], c[3]);
            case 9: return x.run(c[1]);
            case 10: return x.kill(c[1]) ? 1 : 0;
            case 11: return x.tenant(c[1], c[2]);
            case 12: return x.thread(c[1], c[2]);
            case 13: return x.resource(c[1]);
            default: return x.audit(c[1]);
        }
    }

    private static int answer(Model x, int[] c) {
        switch (c[0]) {
            case 0: return x.grant(c[1], c[2], c[3]);
            case 1: return x.withdraw(c[1], c[2]) ? 1 : 0;
            case 2: return x.code(c[1], c[2], c[3]);
            case 3: return x.deploy(c[1]);
            case 4: return x.place;
            case 5: return x.limits(c[1], c[2], c[3], c[4]) ? 1 : 0;
            case 6: return x.capability(c[1], c[2], c[3], c[4]) ? 1 : 0;
            case 7: return x.revoke(c[1], c[2]) ? 1 : 0;
            case 8: return x.start(c[1], c[2], c[3]);
            case 9: return x.run(c[1]);
            case 10: return x.kill(c[1]) ? 1 : 0;
            case 11: return x.tenant(c[1], c[2]);
            case 12: return x.thread(c[1], c[2]);
            case 13: return x.resource(c[1]);
            default: return x.audit(c[1]);
        }
    }

    private static int[] wildCall(Random random) {
        int[] call = new int[5];
        call[0] = random.nextInt(15);
        for (int i = 1; i < 5; i++) {
            int kind = random.nextInt(4);
            call[i] = kind == 0 ? random.nextInt() : kind == 1 ? Integer.MIN_VALUE : random.nextInt(12) - 3;
        }
        return call;
    }

    private static int[] ordinaryCall(Random random) {
        int t = random.nextInt(40) == 0 ? random.nextInt(7) - 2 : random.nextInt(4);
        int kind = random.nextInt(100);
        if (kind < 4) return new int[] {15, t, 0, 0, 0};
        if (kind < 14) return new int[] {0, t, random.nextInt(4) == 0 ? random.nextInt(18) - 1 : 15, pattern(random), 0};
        if (kind < 17) return new int[] {1, t, random.nextInt(6), 0, 0};
        if (kind < 20) {
            int units = random.nextInt(2) == 0 ? 20 : 1000000;
            return new int[] {5, t, random.nextInt(3) * 400, units, random.nextInt(7)};
        }
        if (kind < 30) return new int[] {6, t, random.nextInt(4), random.nextInt(4), random.nextInt(4)};
        if (kind < 32) return new int[] {7, t, random.nextInt(4), 0, 0};
        if (kind < 62) return new int[] {8, t, random.nextInt(4), random.nextInt(40) - 8, 0};
        if (kind < 97) return new int[] {9, random.nextInt(3) == 0 ? random.nextInt(202) : random.nextInt(12), 0, 0, 0};
        return new int[] {10, t, 0, 0, 0};
    }

    private static int pattern(Random random) {
        int kind = random.nextInt(4);
        if (kind == 0) return random.nextInt(512);
        if (kind == 1) return 509;
        if (kind == 2) return random.nextInt(5) + 8 * 5 + 448;
        return random.nextInt(5) + 8 * random.nextInt(5) + 64 * (random.nextBoolean() ? 7 : random.nextInt(6));
    }

    /** A bundle that is mostly sound: written function by function with the height in mind, then perhaps spoilt. */
    private static List<int[]> bundle(Random random) {
        List<int[]> code = new ArrayList<>();
        int functions = 1 + random.nextInt(4);
        for (int f = 0; f < functions; f++) function(random, code, functions);
        int spoil = random.nextInt(8);
        if (spoil == 0) {
            int[] c = code.get(random.nextInt(code.size()));
            c[random.nextInt(3)] = random.nextInt(30) - 2;
        } else if (spoil == 1) {
            Collections.swap(code, random.nextInt(code.size()), random.nextInt(code.size()));
        } else if (spoil == 2) {
            code.remove(random.nextInt(code.size()));
        }
        return code;
    }

    private static void function(Random random, List<int[]> code, int functions) {
        int locals = 1 + random.nextInt(4);
        int start = code.size();
        code.add(new int[] {0, locals, 0});
        int height = 0;
        int length = 3 + random.nextInt(12);
        // places with the height 0 behind which a backward jump is sound
        List<Integer> ground = new ArrayList<>();
        for (int i = 0; i < length; i++) {
            if (height == 0) ground.add(code.size());
            int op = op(random);
            int a = operand(random, op, locals, functions);
            int pops = Model.pops(op, a);
            int pushes = Model.pushes(op, a);
            if (op == 0 || op == 12 || op == 21 || op == 22 || height < pops || height - pops + pushes > 8) {
                op = height < 5 ? 10 : 3;
                a = op == 10 ? random.nextInt(locals) : 0;
                pops = Model.pops(op, a);
                pushes = Model.pushes(op, a);
            }
            if (op == 13) {
                if (height == 1 && random.nextBoolean()) a = ground.get(random.nextInt(ground.size()));
                else a = code.size() + 1;
            }
            code.add(new int[] {op, a, path(random)});
            height += pushes - pops;
        }
        int end = random.nextInt(6);
        if (end == 0 && height == 0) {
            code.add(new int[] {12, ground.get(random.nextInt(ground.size())), 0});
        } else {
            code.add(new int[] {10, 0, 0});
            code.add(new int[] {end == 1 ? 22 : 21, 0, 0});
        }
    }

    private static int path(Random random) {
        int[] few = {0, 4, 20, 21, 5, 24, 1, 83};
        return random.nextInt(3) == 0 ? random.nextInt(84) : few[random.nextInt(few.length)];
    }

    private static int op(Random random) {
        int[] often = {14, 15, 16, 16, 16, 17, 18, 18, 18, 19, 20, 13, 23, 1, 10};
        return random.nextBoolean() ? random.nextInt(24) : often[random.nextInt(often.length)];
    }

    private static int operand(Random random, int op, int locals, int functions) {
        switch (op) {
            case 10:
            case 11: return random.nextInt(locals);
            case 14:
            case 15:
            case 17: return random.nextInt(functions);
            case 16:
            case 18: return random.nextInt(4);
            default: return random.nextInt(5) == 0 ? random.nextInt() : random.nextInt(20) - 4;
        }
    }

    private static final class Grant {
        final int actions;
        final int[] segments;

        Grant(int actions, int[] segments) {
            this.actions = actions;
            this.segments = segments;
        }
    }

    private static final class Slot {
        final Tenant to;
        final int function;
        boolean revoked;

        Slot(Tenant to, int function) {
            this.to = to;
            this.function = function;
        }
    }

    private static final class Tenant {
        final int number;
        final List<Grant> grants = new ArrayList<>();
        final Slot[] slots = new Slot[4];
        List<int[]> bundle = new ArrayList<>();
        boolean killed;
        int ticks, units, maxTicks = 1000, maxUnits = 100, maxThreads = 3;

        Tenant(int number) {
            this.number = number;
        }

        int functions() {
            return (int) bundle.stream().filter(c -> c[0] == 0).count();
        }

        int begin(int function) {
            int at = -1;
            for (int f = -1; f < function; f++) {
                at++;
                while (bundle.get(at)[0] != 0) at++;
            }
            return at;
        }
    }

    private static final class Frame {
        final Tenant tenant;
        final boolean privileged, sent;
        final int[] locals = new int[4];
        final Deque<Integer> values = new ArrayDeque<>();
        int at;

        Frame(Tenant tenant, int function, int argument, boolean privileged, boolean sent) {
            this.tenant = tenant;
            this.at = tenant.begin(function);
            this.locals[0] = argument;
            this.privileged = privileged;
            this.sent = sent;
        }
    }

    private static final class Strand {
        final Tenant owner;
        final Set<Tenant> inherited;
        final Deque<Frame> frames = new ArrayDeque<>();
        boolean ended;
        int code, result;

        Strand(Tenant owner, Set<Tenant> inherited) {
            this.owner = owner;
            this.inherited = inherited;
        }

        Set<Tenant> domains() {
            Set<Tenant> all = new TreeSet<>((p, q) -> p.number - q.number);
            for (Frame f : frames) {
                all.add(f.tenant);
                if (f.privileged) return all;
            }
            all.addAll(inherited);
            return all;
        }
    }

    private static final class Model {
        final int quantum;
        final Tenant[] tenants = {new Tenant(0), new Tenant(1), new Tenant(2), new Tenant(3)};
        final Strand[] strands = new Strand[6];
        final int[] resources = new int[84];
        final List<Integer> audit = new ArrayList<>();
        List<int[]> pending = new ArrayList<>();
        int place = -1, turn = -1, made = 0;

        Model(int quantum) {
            this.quantum = Math.min(16, Math.max(1, quantum));
        }

        Tenant find(int t) {
            return t < 0 || t > 3 ? null : tenants[t];
        }

        int grant(int t, int actions, int pattern) {
            Tenant tenant = find(t);
            if (tenant == null || actions < 1 || actions > 15 || pattern < 0 || pattern > 511) return -1;
            List<Integer> segments = new ArrayList<>(Arrays.asList(pattern % 8, pattern / 8 % 8, pattern / 64));
            while (!segments.isEmpty() && segments.get(segments.size() - 1) == 7) segments.remove(segments.size() - 1);
            if (segments.isEmpty() || segments.contains(6) || segments.contains(7)) return -1;
            if (segments.contains(5) && segments.indexOf(5) != segments.size() - 1) return -1;
            if (tenant.grants.size() == 6) return -1;
            tenant.grants.add(new Grant(actions, segments.stream().mapToInt(s -> s).toArray()));
            return tenant.grants.size() - 1;
        }

        boolean withdraw(int t, int k) {
            Tenant tenant = find(t);
            if (tenant == null || k < 0 || k >= tenant.grants.size()) return false;
            tenant.grants.remove(k);
            return true;
        }

        int code(int op, int a, int b) {
            if (pending.size() == 64) return -1;
            pending.add(new int[] {op, a, b});
            return pending.size();
        }

        int deploy(int t) {
            place = -1;
            Tenant tenant = find(t);
            if (tenant == null) return -1;
            List<int[]> bundle = pending;
            pending = new ArrayList<>();
            if (frames(tenant) > 0) return 3;
            place = malformed(bundle);
            if (place >= 0) return 1;
            place = unsound(bundle);
            if (place >= 0) return 2;
            tenant.bundle = bundle;
            tenant.killed = false;
            tenant.ticks = 0;
            tenant.units = 0;
            return 0;
        }

        static int malformed(List<int[]> bundle) {
            if (bundle.isEmpty() || bundle.get(0)[0] != 0) return 0;
            int[] around = new int[bundle.size()];
            int functions = 0;
            for (int i = 0; i < around.length; i++) {
                if (bundle.get(i)[0] == 0) functions++;
                around[i] = functions - 1;
            }
            int locals = 0;
            for (int i = 0; i < around.length; i++) {
                int op = bundle.get(i)[0];
                int a = bundle.get(i)[1];
                int b = bundle.get(i)[2];
                if (op < 0 || op > 23) return i;
                if (op == 0) locals = a;
                boolean good = true;
                if (op == 0) good = a >= 1 && a <= 4 && around[i] < 4;
                if (op == 10 || op == 11) good = a >= 0 && a < locals;
                if (op == 12 || op == 13) {
                    good = a >= 0 && a < around.length && around[a] == around[i] && bundle.get(a)[0] != 0;
                }
                if (op == 14 || op == 15 || op == 17) good = a >= 0 && a < functions;
                if (op == 16) good = a >= 0 && a < 4;
                if (op == 18) good = a >= 0 && a < 4 && b >= 0 && b < 84;
                if (!good) return i;
            }
            return -1;
        }

        static int pops(int op, int a) {
            int[] pops = {0, 0, 1, 1, 2, 2, 2, 2, 2, 2, 0, 1, 0, 1, 1, 1, 1, 1, 0, 1, 1, 1, 1, 0};
            return op == 18 ? a == 1 ? 1 : 0 : pops[op];
        }

        static int pushes(int op, int a) {
            int[] pushes = {0, 1, 2, 0, 2, 1, 1, 1, 1, 1, 1, 0, 0, 0, 1, 1, 2, 1, 0, 1, 0, 0, 0, 0};
            return op == 18 ? a == 1 ? 0 : 1 : pushes[op];
        }

        static int unsound(List<int[]> bundle) {
            List<Set<Integer>> heights = new ArrayList<>();
            Deque<int[]> found = new ArrayDeque<>();
            for (int i = 0; i < bundle.size(); i++) {
                heights.add(new TreeSet<>());
                if (bundle.get(i)[0] == 0) found.add(new int[] {i, 0});
            }
            Set<Integer> bad = new TreeSet<>();
            while (!found.isEmpty()) {
                int[] next = found.remove();
                int i = next[0];
                int h = next[1];
                if (!heights.get(i).add(h)) continue;
                if (heights.get(i).size() > 1) bad.add(i);
                int op = bundle.get(i)[0];
                int a = bundle.get(i)[1];
                int after = h - pops(op, a) + pushes(op, a);
                boolean ends = op == 12 || op == 21 || op == 22;
                boolean last = i + 1 == bundle.size();
                if (!ends && (last || bundle.get(i + 1)[0] == 0)) bad.add(i);
                if (h < pops(op, a) || after > 8) {
                    bad.add(i);
                    continue;
                }
                if (!ends && !last) found.add(new int[] {i + 1, after});
                if (op == 12 || op == 13) found.add(new int[] {a, after});
            }
            return bad.isEmpty() ? -1 : bad.iterator().next();
        }

        boolean limits(int t, int ticks, int units, int threads) {
            Tenant tenant = find(t);
            if (tenant == null) return false;
            for (int n : new int[] {ticks, units, threads}) if (n < 0 || n > 1000000) return false;
            tenant.maxTicks = ticks;
            tenant.maxUnits = units;
            tenant.maxThreads = threads;
            return true;
        }

        boolean capability(int t, int s, int to, int f) {
            if (find(t) == null || find(to) == null || s < 0 || s > 3 || f < 0 || f > 3) return false;
            find(t).slots[s] = new Slot(find(to), f);
            return true;
        }

        boolean revoke(int t, int s) {
            if (find(t) == null || s < 0 || s > 3) return false;
            Slot slot = find(t).slots[s];
            if (slot == null || slot.revoked) return false;
            slot.revoked = true;
            return true;
        }

        int start(int t, int function, int argument) {
            Tenant tenant = find(t);
            if (tenant == null || tenant.killed || function < 0 || function >= tenant.functions()) return -1;
            return begin(tenant, function, argument, Collections.emptySet());
        }

        int begin(Tenant tenant, int function, int argument, Set<Tenant> inherited) {
            if (threads(tenant) >= tenant.maxThreads) return -1;
            for (int k = 0; k < 6; k++) {
                if (strands[k] != null && !strands[k].ended) continue;
                strands[k] = new Strand(tenant, inherited);
                strands[k].frames.push(new Frame(tenant, function, argument, false, false));
                if (turn < 0) {
                    turn = k;
                    made = 0;
                }
                return k;
            }
            return -1;
        }

        int run(int n) {
            if (n < 0 || n > 200) return 0;
            for (int i = 0; i < n; i++) {
                if (turn < 0) return i;
                Strand strand = strands[turn];
                boolean yielded = step(strand);
                made++;
                for (Tenant t : tenants) if (t.killed && frames(t) == 0) t.units = 0;
                if (yielded || strand.ended || made == quantum) next();
            }
            return n;
        }

        void next() {
            int from = turn;
            turn = -1;
            made = 0;
            for (int i = 6; i >= 1; i--) {
                Strand s = strands[(from + i) % 6];
                if (s != null && !s.ended) turn = (from + i) % 6;
            }
        }

        /** Whether the step was a YIELD. */
        boolean step(Strand s) {
            Frame f = s.frames.peek();
            Tenant t = f.tenant;
            int[] c = t.bundle.get(f.at);
            boolean back = (c[0] == 12 || c[0] == 13) && c[1] <= f.at;
            if (t.killed && (c[0] == 0 || c[0] >= 14 && c[0] <= 17 || back)) return raise(s, 3);
            if (t.ticks >= t.maxTicks) return raise(s, 2);
            t.ticks++;
            f.at++;
            int[] v = new int[2];
            for (int i = 0; i < pops(c[0], c[1]); i++) v[i] = f.values.pop();
            switch (c[0]) {
                case 0: return false;
                case 1: return push(f, c[1]);
                case 2: return push(f, v[0]) | push(f, v[0]);
                case 3: return false;
                case 4: return push(f, v[0]) | push(f, v[1]);
                case 5: return push(f, v[1] + v[0]);
                case 6: return push(f, v[1] - v[0]);
                case 7: return push(f, v[1] * v[0]);
                case 8: return push(f, v[1] < v[0] ? 1 : 0);
                case 9: return push(f, v[1] == v[0] ? 1 : 0);
                case 10: return push(f, f.locals[c[1]]);
                case 11: f.locals[c[1]] = v[0]; return false;
                case 12: f.at = c[1]; return false;
                case 13: f.at = v[0] == 0 ? c[1] : f.at; return false;
                case 14: return enter(s, new Frame(t, c[1], v[0], false, false));
                case 15: return enter(s, new Frame(t, c[1], v[0], true, false));
                case 16: return send(s, f, c[1], v[0]);
                case 17: return push(f, begin(t, c[1], v[0], s.domains()));
                case 18: return guard(s, f, c[1], c[2], v[0]);
                case 19:
                    boolean given = v[0] >= 0 && (long) t.units + v[0] <= t.maxUnits;
                    if (given) t.units += v[0];
                    return push(f, given ? 1 : 0);
                case 20: t.units = Math.max(0, t.units - Math.max(0, v[0])); return false;
                case 21: return leave(s, v[0]);
                case 22: return raise(s, 10 + (v[0] & 15));
                default: return true;
            }
        }

        boolean push(Frame f, int value) {
            f.values.push(value);
            return false;
        }

        boolean enter(Strand s, Frame f) {
            if (s.frames.size() == 6) return raise(s, 6);
            s.frames.push(f);
            return false;
        }

        boolean send(Strand s, Frame f, int a, int argument) {
            Slot slot = f.tenant.slots[a];
            int code = 0;
            if (slot == null) code = 5;
            else if (slot.revoked) code = 4;
            else if (slot.to.killed || slot.function >= slot.to.functions()) code = 3;
            if (code != 0) return push(f, 0) | push(f, code);
            return enter(s, new Frame(slot.to, slot.function, argument, false, true));
        }

        boolean guard(Strand s, Frame f, int action, int path, int value) {
            boolean allowed = s.domains().stream().allMatch(t -> may(t, action, path));
            audit.add(path + 128 * action + 512 * f.tenant.number + (allowed ? 2048 : 0));
            if (!allowed) return raise(s, 1);
            int old = resources[path];
            if (action == 1) resources[path] = value;
            if (action == 2) resources[path] = 0;
            if (action == 0 || action == 2) push(f, old);
            if (action == 3) {
                int count = 0;
                for (int p = 0; p < 84; p++) {
                    boolean behind = name(p).startsWith(name(path)) && p != path;
                    if (behind && resources[p] != 0) count++;
                }
                push(f, count);
            }
            return false;
        }

        static String name(int path) {
            if (path < 4) return "" + path;
            if (path < 20) return "" + (path - 4) / 4 + (path - 4) % 4;
            return "" + (path - 20) / 16 + (path - 20) / 4 % 4 + (path - 20) % 4;
        }

        static boolean may(Tenant t, int action, int path) {
            for (Grant g : t.grants) {
                StringBuilder expression = new StringBuilder();
                for (int s : g.segments) expression.append(s == 4 ? "." : s == 5 ? ".+" : "" + s);
                if ((g.actions >> action & 1) == 1 && name(path).matches(expression.toString())) return true;
            }
            return false;
        }

        boolean leave(Strand s, int value) {
            Frame f = s.frames.pop();
            if (s.frames.isEmpty()) {
                s.ended = true;
                s.code = 0;
                s.result = value;
                return false;
            }
            push(s.frames.peek(), value);
            if (f.sent) push(s.frames.peek(), 0);
            return false;
        }

        boolean raise(Strand s, int code) {
            while (!s.frames.isEmpty()) {
                if (s.frames.pop().sent) return push(s.frames.peek(), 0) | push(s.frames.peek(), code);
            }
            s.ended = true;
            s.code = code;
            return false;
        }

        boolean kill(int t) {
            Tenant tenant = find(t);
            if (tenant == null || tenant.bundle.isEmpty() || tenant.killed) return false;
            tenant.killed = true;
            if (frames(tenant) == 0) tenant.units = 0;
            return true;
        }

        int threads(Tenant tenant) {
            return (int) Arrays.stream(strands).filter(s -> s != null && !s.ended && s.owner == tenant).count();
        }

        int frames(Tenant tenant) {
            int count = 0;
            for (Strand s : strands) if (s != null) for (Frame f : s.frames) if (f.tenant == tenant) count++;
            return count;
        }

        int tenant(int t, int what) {
            Tenant tenant = find(t);
            if (tenant == null || what < 0 || what > 6) return -1;
            int[] all = {tenant.ticks, tenant.units, threads(tenant), frames(tenant),
                tenant.bundle.isEmpty() ? 0 : tenant.killed ? 2 : 1, tenant.functions(), tenant.grants.size()};
            return all[what];
        }

        int thread(int k, int what) {
            if (k < 0 || k > 5 || strands[k] == null || what < 0 || what > 4) return -1;
            Strand s = strands[k];
            int domains = 0;
            if (!s.ended) for (Tenant t : s.domains()) domains += 1 << t.number;
            int[] all = {s.frames.size(), s.ended ? s.code : -1, s.result, domains, turn == k ? 1 : 0};
            return all[what];
        }

        int resource(int path) {
            return path < 0 || path > 83 ? 0 : resources[path];
        }

        int audit(int k) {
            return k < 0 || k > 7 || k >= audit.size() ? -1 : audit.get(audit.size() - 1 - k);
        }
    }
}
