import java.util.ArrayList;
import java.util.List;

/** Promises 2 to 18, by many made-up processes and calls: ScopeRunner and Model always answer the same. */
public final class ModelTest extends Case {
    private static final int PROCESSES = 6000;
    private static long seed;

    private final ScopeRunner x = new ScopeRunner();
    private final Model m = new Model();
    private final int number;
    private final boolean wild;
    private final List<int[]> calls = new ArrayList<>();

    private ModelTest(int number) {
        this.number = number;
        this.wild = number % 5 == 0;
        seed = number * 7919L + 17;
    }

    public static void main(String[] args) {
        int count = args.length > 0 ? Integer.parseInt(args[0]) : PROCESSES;
        int deployedCount = 0;
        for (int i = 0; i < count; i++) {
            ModelTest test = new ModelTest(i);
            test.build();
            if (test.m.deployed) {
                deployedCount++;
                test.use();
            }
        }
        System.out.println(deployedCount + " of " + count + " processes were deployed");
        String[] rare = {"fault 100", "fault 101", "an entry with entries undone", "fault 102", "entries gathered",
            "handling or undoing scopes terminated", "fault in a fault handler", "caught",
            "entry of a COMPENSATE failed", "entry of an UNDOING scope failed", "entry of a FAILING scope failed"};
        for (int i = 0; i < rare.length; i++) {
            System.out.println("  " + rare[i] + ": " + Model.seen[i]);
            if (Model.seen[i] == 0) {
                fail("the runs never reach: " + rare[i]);
            }
        }
        end("ModelTest");
    }

    private static int pick(int n) {
        seed = seed * 6364136223846793005L + 1442695040888963407L;
        return (int) ((seed >>> 33) % n);
    }

    private static boolean chance(int percent) {
        return pick(100) < percent;
    }

    private void same(String what, long got, long want) {
        due("process " + number + ": " + what, got, want);
    }

    // ---- making a process

    private int put(int parent, int role, int kind, int p, int q) {
        int want = m.add(parent, role, kind, p, q);
        same("add(" + parent + ", " + role + ", " + kind + ", " + p + ", " + q + ")", x.add(parent, role, kind, p, q), want);
        calls.add(new int[] {parent, role, kind, p, q});
        return want;
    }

    private void build() {
        put(-1, 0, SCOPE, chance(70) ? 0 : pick(103), 0);
        put(0, 0, SEQUENCE, 0, 0);
        put(1, 0, RECEIVE, pick(3), pick(5));
        if (chance(50)) {
            nest();
        }
        int wanted = chance(30) ? 8 + pick(16) : 24;
        for (int i = 0; i < 200 && m.activities.size() + lacking() < wanted; i++) {
            grow();
        }
        for (int i = 0; i < 30 && lacking() > 0; i++) {
            fill();
        }
        putLinks();
        for (int a = 0; a < m.activities.size(); a++) {
            if (chance(30)) {
                int mode = pick(wild ? 5 : 4);
                same("join(" + a + ", " + mode + ")", x.join(a, mode) ? 1 : 0, m.join(a, mode) ? 1 : 0);
            }
        }
        same("deploy()", x.deploy(), m.deploy());
    }

    /** Scopes in scopes beside something that may fault late: growing at random seldom makes this. */
    private void nest() {
        int outer = put(1, 0, SCOPE, 0, 0);
        int flow = put(outer, 0, FLOW, 0, 0);
        int middle = put(flow, 0, SCOPE, 1 + pick(2), 0);
        int steps = put(middle, 0, SEQUENCE, 0, 0);
        int inner = put(steps, 0, SCOPE, 0, 0);
        put(inner, 0, chance(50) ? ADD : SEQUENCE, 4, 1);
        put(steps, 0, chance(80) ? INVOKE : THROW, 1, 1);
        if (chance(80)) {
            put(flow, 0, INVOKE, 0, pick(5));
        }
        for (int scope : new int[] {outer, middle, inner}) {
            for (int role = 1; role <= 2; role++) {
                if (chance(35)) {
                    put(scope, role, chance(50) ? SEQUENCE : INVOKE, 0, pick(5));
                }
            }
        }
    }

    private int lacking() {
        int count = 0;
        for (Model.Activity a : m.activities) {
            if (a.kind >= SEQUENCE && a.children().isEmpty()) {
                count++;
            }
        }
        return count;
    }

    private void fill() {
        for (Model.Activity a : new ArrayList<>(m.activities)) {
            if (a.kind >= SEQUENCE && a.children().isEmpty()) {
                leaf(a, 0);
            }
        }
    }

    private void grow() {
        Model.Activity parent = m.activities.get(pick(m.activities.size()));
        if (wild && chance(5)) {
            put(pick(26) - 1, pick(4), pick(14), pick(6), pick(6));
            return;
        }
        if (parent.kind < SEQUENCE) {
            return;
        }
        int children = parent.children().size();
        boolean full = (parent.kind == SCOPE || parent.kind == WHILE) && children == 1 || parent.kind == IF && children == 2;
        int role = 0;
        if (full) {
            if (parent.kind != SCOPE) {
                return;
            }
            role = 1 + pick(2);
            if (parent.inRole(role) != null) {
                return;
            }
        }
        if (chance(55)) {
            container(parent, role);
        } else {
            leaf(parent, role);
        }
    }

    private void container(Model.Activity parent, int role) {
        int[] kinds = {SEQUENCE, SEQUENCE, FLOW, FLOW, IF, WHILE, SCOPE, SCOPE, SCOPE, SCOPE};
        int kind = kinds[pick(kinds.length)];
        boolean inHandler = role != 0 || parent.handler() != null;
        if (kind == SCOPE && inHandler && !(wild && chance(5))) {
            kind = SEQUENCE;
        }
        int p = kind == SCOPE ? (chance(60) ? 0 : 1 + pick(3)) : pick(5);
        if (kind == SCOPE && chance(5)) {
            p = 100 + pick(3);
        }
        put(parent.number, role, kind, p, pick(6) - 1);
    }

    private void leaf(Model.Activity parent, int role) {
        Model.Activity handler = role != 0 ? null : parent.handler();
        boolean inHandler = role != 0 || handler != null;
        boolean inFaultHandler = role == 1 || handler != null && handler.role == 1;
        int kind = pick(10);
        if (inHandler && chance(40)) {
            boolean inFlow = false;
            for (Model.Activity up = parent; up != null; up = up.parent) {
                inFlow |= up.kind == FLOW && up.handler() != null;
            }
            Model.Activity scope = role != 0 ? parent : handler.parent;
            if (!inFlow) {
                put(parent.number, role, COMPENSATE, scopeIn(scope), 0);
                return;
            }
        }
        switch (kind) {
            case 0 -> put(parent.number, role, EMPTY, 0, 0);
            case 1, 2 -> put(parent.number, role, ADD, pick(5), 1 + pick(2));
            case 4 -> put(parent.number, role, COPY, pick(5), pick(5));
            case 5 -> put(parent.number, role, chance(60) ? RECEIVE : EMPTY, pick(4), pick(5));
            case 3, 6 -> put(parent.number, role, INVOKE, 0, pick(5));
            case 7 -> put(parent.number, role, THROW, 1 + pick(4), 0);
            default -> put(parent.number, role, inFaultHandler || wild && chance(5) ? RETHROW : ADD, pick(5), 1);
        }
    }

    private int scopeIn(Model.Activity scope) {
        List<Integer> found = new ArrayList<>(List.of(0, 0));
        for (Model.Activity a : m.activities) {
            if (a.kind == SCOPE && a.scopeAround() == scope) {
                found.add(a.number);
            }
        }
        return wild && chance(5) ? pick(24) : found.get(pick(found.size()));
    }

    private void putLinks() {
        int n = m.activities.size();
        List<int[]> links = new ArrayList<>();
        for (int tries = pick(60); tries > 0; tries--) {
            int[] link = {pick(n), pick(n), chance(50) ? -1 : pick(5), pick(6) - 1};
            if (wild && chance(2) || mayLink(links, link)) {
                links.add(link);
                same("link(" + link[0] + ", " + link[1] + ", ..)", x.link(link[0], link[1], link[2], link[3]),
                    m.link(link[0], link[1], link[2], link[3]));
            }
        }
    }

    /** Whether a process with these links and one more can be deployed. */
    private boolean mayLink(List<int[]> links, int[] more) {
        Model other = new Model();
        for (int[] c : calls) {
            other.add(c[0], c[1], c[2], c[3], c[4]);
        }
        for (int[] l : links) {
            other.link(l[0], l[1], l[2], l[3]);
        }
        return other.link(more[0], more[1], more[2], more[3]) >= 0 && other.deploy() == 0;
    }

    // ---- using it

    private void use() {
        for (int i = 0; i < 120; i++) {
            call();
            compare();
        }
    }

    private void call() {
        int instance = pick(m.instances.size() + 1) - (chance(5) ? 1 : 0);
        int n = m.activities.size();
        switch (pick(10)) {
            case 0, 1 -> {
                int operation = pick(4);
                int key = pick(5);
                int value = pick(4) - 1;
                String what = "message(" + operation + ", " + key + ", " + value + ")";
                same(what, x.message(operation, key, value), m.message(operation, key, value));
            }
            case 2, 3 -> answerSome(instance, n);
            case 4 -> {
                if (chance(6)) {
                    same("terminate(" + instance + ")", x.terminate(instance) ? 1 : 0, m.terminate(instance) ? 1 : 0);
                }
            }
            default -> {
                int steps = chance(50) ? 1 + pick(4) : pick(53);
                same("run(" + instance + ", " + steps + ")", x.run(instance, steps), m.run(instance, steps));
            }
        }
    }

    private void answerSome(int instance, int n) {
        int from = pick(n + 2) - 1;
        for (int i = 0; i < n; i++) {
            int a = (from + i) % n;
            int fault = chance(70) ? 0 : chance(90) ? 1 + pick(4) : pick(130) - 10;
            int value = pick(5);
            boolean want = m.answer(instance, a, fault, value);
            same("answer(" + instance + ", " + a + ", " + fault + ", " + value + ")", x.answer(instance, a, fault, value) ? 1 : 0, want ? 1 : 0);
            if (want) {
                return;
            }
        }
    }

    private void compare() {
        for (int i = 0; i < m.instances.size(); i++) {
            Model.Instance it = m.instances.get(i);
            String in = "in instance " + i + " ";
            same(in + "state", x.state(i), it.state);
            same(in + "events", x.events(i), it.events.size());
            same(in + "next", x.next(i), m.next(i));
            for (int a = 0; a < m.activities.size(); a++) {
                same(in + "status " + a, x.status(i, a), it.status[a]);
                same(in + "own " + a, x.own(i, a), m.own(i, a));
                same(in + "kept " + a, x.kept(i, a), m.kept(i, a));
            }
            for (int l = 0; l < m.links.size(); l++) {
                same(in + "link " + l, x.linkState(i, l), it.link[l]);
            }
            for (int k = 0; k < 4; k++) {
                same(in + "variable " + k, x.variable(i, k), it.variables[k]);
            }
            for (int k = -1; k <= 32; k++) {
                same(in + "event " + k, x.event(i, k), m.event(i, k));
            }
        }
        same("state of the next instance", x.state(m.instances.size()), -1);
    }
}
