import java.util.ArrayList;
import java.util.List;

/** Promises 2 to 18, by many made-up processes and calls: ScopeRunner and Model always answer the same. */
public final class ModelTest extends Case {
    private static final int PROCESSES = 10000;
    private static final int ACTIONS = 120;
    private static final int QUESTIONS = 12;
    /** An object answers so many calls at most, so each question is put to one of a few twins. */
    private static final int MOST_CALLS = 512;
    private static final int TWINS = 6;
    private static long seed;

    private final ScopeRunner[] twins = new ScopeRunner[TWINS];
    private final int[] used = new int[TWINS];
    private int turn;
    private int actionsLeft = ACTIONS;
    private final Model m = new Model();
    private final int number;
    private final boolean wild;
    private final List<int[]> calls = new ArrayList<>();

    private ModelTest(int number) {
        this.number = number;
        this.wild = number % 5 == 0;
        seed = number * 7919L + 17;
        for (int i = 0; i < TWINS; i++) {
            twins[i] = new ScopeRunner();
        }
    }

    public static void main(String[] args) {
        int count = args.length > 0 ? Integer.parseInt(args[0]) : PROCESSES;
        int deployedCount = 0;
        for (int i = 0; i < count; i++) {
            ModelTest test = new ModelTest(i);
            test.build();
            if (test.m.deployed) {
                deployedCount++;
                test.use();
            }
        }
        System.out.println(deployedCount + " of " + count + " processes were deployed");
        String[] rare = {"fault 100", "fault 101", "an entry with entries undone", "fault 102", "entries gathered",
            "handling or undoing scopes terminated", "fault in a fault handler", "caught",
            "entry of a COMPENSATE failed", "entry of an UNDOING scope failed", "entry of a FAILING scope failed"};
        for (int i = 0; i < rare.length; i++) {
            System.out.println("  " + rare[i] + ": " + Model.seen[i]);
            if (Model.seen[i] == 0) {
                fail("the runs never reach: " + rare[i]);
            }
        }
        end("ModelTest");
    }

    private static int pick(int n) {
        seed = seed * 6364136223846793005L + 1442695040888963407L;
        return (int) ((seed >>> 33) % n);
    }

    private static boolean chance(int percent) {
        return pick(100) < percent;
    }

    private void ask(int twin, Call call, long want) {
        used[twin]++;
        long got = call.on(twins[twin]);
        if (got != want) {
            due("process " + number + ": " + call.name(), got, want);
        }
    }

    private void act(Call call, long want) {
        for (int i = 0; i < TWINS; i++) {
            ask(i, call, want);
        }
    }

    private void askOne(Call call, long want) {
        turn = (turn + 1) % TWINS;
        if (used[turn] + actionsLeft < MOST_CALLS) {
            ask(turn, call, want);
        }
    }

    // ---- making a process

    private int put(int parent, int role, int kind, int p, int q) {
        int want = m.add(parent, role, kind, p, q);
        act(Call.add(parent, role, kind, p, q), want);
        calls.add(new int[] {parent, role, kind, p, q});
        return want;
    }

    private void build() {
        put(-1, 0, SCOPE, chance(70) ? 0 : pick(103), 0);
        put(0, 0, SEQUENCE, 0, 0);
        put(1, 0, RECEIVE, pick(3), pick(5));
        if (chance(50)) {
            nest();
        }
        int wanted = chance(30) ? 8 + pick(16) : 24;
        for (int i = 0; i < 200 && m.activities.size() + lacking() < wanted; i++) {
            grow();
        }
        for (int i = 0; i < 30 && lacking() > 0; i++) {
            fill();
        }
        putLinks();
        for (int a = 0; a < m.activities.size(); a++) {
            if (chance(30)) {
                int mode = pick(wild ? 5 : 4);
                act(Call.join(a, mode), m.join(a, mode) ? 1 : 0);
            }
        }
        act(Call.deploy(), m.deploy());
    }

    /** Scopes in scopes beside something that may fault late: growing at random seldom makes this. */
    private void nest() {
        int outer = put(1, 0, SCOPE, 0, 0);
        int flow = put(outer, 0, FLOW, 0, 0);
        int middle = put(flow, 0, SCOPE, 1 + pick(2), 0);
        int steps = put(middle, 0, SEQUENCE, 0, 0);
        int inner = put(steps, 0, SCOPE, 0, 0);
        put(inner, 0, chance(50) ? ADD : SEQUENCE, 4, 1);
        put(steps, 0, chance(80) ? INVOKE : THROW, 1, 1);
        if (chance(80)) {
            put(flow, 0, INVOKE, 0, pick(5));
        }
        for (int scope : new int[] {outer, middle, inner}) {
            for (int role = 1; role <= 2; role++) {
                if (chance(35)) {
                    put(scope, role, chance(50) ? SEQUENCE : INVOKE, 0, pick(5));
                }
            }
        }
    }

    private int lacking() {
        int count = 0;
        for (Model.Activity a : m.activities) {
            if (a.kind >= SEQUENCE && a.children().isEmpty()) {
                count++;
            }
        }
        return count;
    }

    private void fill() {
        for (Model.Activity a : new ArrayList<>(m.activities)) {
            if (a.kind >= SEQUENCE && a.children().isEmpty()) {
                leaf(a, 0);
            }
        }
    }

    private void grow() {
        Model.Activity parent = m.activities.get(pick(m.activities.size()));
        if (wild && chance(5)) {
            put(pick(26) - 1, pick(4), pick(14), pick(6), pick(6));
            return;
        }
        if (parent.kind < SEQUENCE) {
            return;
        }
        int children = parent.children().size();
        boolean full = (parent.kind == SCOPE || parent.kind == WHILE) && children == 1 || parent.kind == IF && children == 2;
        int role = 0;
        if (full) {
            if (parent.kind != SCOPE) {
                return;
            }
            role = 1 + pick(2);
            if (parent.inRole(role) != null) {
                return;
            }
        }
        if (chance(55)) {
            container(parent, role);
        } else {
            leaf(parent, role);
        }
    }

    private void container(Model.Activity parent, int role) {
        int[] kinds = {SEQUENCE, SEQUENCE, FLOW, FLOW, IF, WHILE, SCOPE, SCOPE, SCOPE, SCOPE};
        int kind = kinds[pick(kinds.length)];
        boolean inHandler = role != 0 || parent.handler() != null;
        if (kind == SCOPE && inHandler && !(wild && chance(5))) {
            kind = SEQUENCE;
        }
        int p = kind == SCOPE ? (chance(60) ? 0 : 1 + pick(3)) : pick(5);
        if (kind == SCOPE && chance(5)) {
            p = 100 + pick(3);
        }
        put(parent.number, role, kind, p, pick(6) - 1);
    }

    private void leaf(Model.Activity parent, int role) {
        Model.Activity handler = role != 0 ? null : parent.handler();
        boolean inHandler = role != 0 || handler != null;
        boolean inFaultHandler = role == 1 || handler != null && handler.role == 1;
        int kind = pick(10);
        if (inHandler && chance(40)) {
            boolean inFlow = false;
            for (Model.Activity up = parent; up != null; up = up.parent) {
                inFlow |= up.kind == FLOW && up.handler() != null;
            }
            Model.Activity scope = role != 0 ? parent : handler.parent;
            if (!inFlow) {
                put(parent.number, role, COMPENSATE, scopeIn(scope), 0);
                return;
            }
        }
        switch (kind) {
            case 0 -> put(parent.number, role, EMPTY, 0, 0);
            case 1, 2 -> put(parent.number, role, ADD, pick(5), 1 + pick(2));
            case 4 -> put(parent.number, role, COPY, pick(5), pick(5));
            case 5 -> put(parent.number, role, chance(90) ? RECEIVE : EMPTY, pick(3), pick(5));
            case 3, 6 -> put(parent.number, role, INVOKE, 0, pick(5));
            case 7 -> put(parent.number, role, THROW, 1 + pick(4), 0);
            default -> put(parent.number, role, inFaultHandler || wild && chance(5) ? RETHROW : ADD, pick(5), 1);
        }
    }

    private int scopeIn(Model.Activity scope) {
        List<Integer> found = new ArrayList<>(List.of(0, 0));
        for (Model.Activity a : m.activities) {
            if (a.kind == SCOPE && a.scopeAround() == scope) {
                found.add(a.number);
            }
        }
        return wild && chance(5) ? pick(24) : found.get(pick(found.size()));
    }

    private void putLinks() {
        int n = m.activities.size();
        List<int[]> links = new ArrayList<>();
        for (int tries = pick(60); tries > 0; tries--) {
            int[] link = {pick(n), pick(n), chance(50) ? -1 : pick(5), pick(6) - 1};
            if (wild && chance(2) || mayLink(links, link)) {
                links.add(link);
                act(Call.link(link[0], link[1], link[2], link[3]), m.link(link[0], link[1], link[2], link[3]));
            }
        }
    }

    /** Whether a process with these links and one more can be deployed. */
    private boolean mayLink(List<int[]> links, int[] more) {
        Model other = new Model();
        for (int[] c : calls) {
            other.add(c[0], c[1], c[2], c[3], c[4]);
        }
        for (int[] l : links) {
            other.link(l[0], l[1], l[2], l[3]);
        }
        return other.link(more[0], more[1], more[2], more[3]) >= 0 && other.deploy() == 0;
    }

    // ---- using it

    private void use() {
        while (actionsLeft > 0) {
            actionsLeft--;
            int instance = pick(m.instances.size() + 1) - (chance(5) ? 1 : 0);
            int before = eventsOf(instance);
            action(instance);
            askAfterAction(instance, before);
        }
        for (int i = 0; i < TWINS; i++) {
            due("process " + number + ": calls on a twin are " + used[i], used[i] <= MOST_CALLS, true);
        }
    }

    private int eventsOf(int instance) {
        return instance >= 0 && instance < m.instances.size() ? m.instances.get(instance).events.size() : 0;
    }

    private void action(int instance) {
        switch (pick(10)) {
            case 0, 1 -> {
                int operation = pick(4);
                int key = pick(5);
                int value = pick(4) - 1;
                act(Call.message(operation, key, value), m.message(operation, key, value));
            }
            case 2, 3 -> {
                int a = invoke(instance);
                int fault = chance(70) ? 0 : chance(90) ? 1 + pick(4) : pick(130) - 10;
                int value = pick(5);
                act(Call.answer(instance, a, fault, value), m.answer(instance, a, fault, value) ? 1 : 0);
            }
            case 4 -> {
                if (chance(6)) {
                    act(Call.terminate(instance), m.terminate(instance) ? 1 : 0);
                }
            }
            default -> {
                int n = chance(50) ? 1 + pick(4) : pick(53);
                act(Call.run(instance, n), m.run(instance, n));
            }
        }
    }

    /** An INVOKE that is WAITING, if there is one; sometimes any activity, or none. */
    private int invoke(int instance) {
        int n = m.activities.size();
        int from = pick(n + 2) - 1;
        for (int i = 0; i < n && instance >= 0 && instance < m.instances.size() && !chance(1); i++) {
            int a = (from + i + n) % n;
            if (m.activities.get(a).kind == INVOKE && m.instances.get(instance).status[a] == WAITING) {
                return a;
            }
        }
        return from;
    }

    private void askAfterAction(int touched, int eventsBefore) {
        askOne(Call.state(m.instances.size()), -1);
        for (int k = Math.min(eventsOf(touched) - eventsBefore, 6) - 1; k >= 0; k--) {
            askOne(Call.event(touched, k), m.event(touched, k));
        }
        for (int i = 0; i < QUESTIONS && !m.instances.isEmpty(); i++) {
            int any = pick(m.instances.size());
            boolean there = touched >= 0 && touched < m.instances.size();
            askOf(there && chance(60) ? touched : any, i);
        }
    }

    private void askOf(int i, int question) {
        Model.Instance it = m.instances.get(i);
        int a = pick(m.activities.size());
        switch (question) {
            case 0 -> askOne(Call.state(i), it.state);
            case 1 -> askOne(Call.next(i), m.next(i));
            case 2 -> askOne(Call.events(i), it.events.size());
            case 3 -> {
                int k = pick(4);
                askOne(Call.variable(i, k), it.variables[k]);
            }
            case 4 -> askOne(Call.own(i, a), m.own(i, a));
            case 5 -> askScope(i);
            case 6 -> {
                int k = pick(35) - 1;
                askOne(Call.event(i, k), m.event(i, k));
            }
            case 7, 8 -> {
                int l = pick(17);
                askOne(Call.linkState(i, l), l < m.links.size() ? it.link[l] : -1);
            }
            default -> askOne(Call.status(i, a), it.status[a]);
        }
    }

    private void askScope(int i) {
        for (int tries = 0; tries < 4; tries++) {
            int a = pick(m.activities.size());
            if (m.activities.get(a).kind == SCOPE || tries == 3) {
                askOne(Call.kept(i, a), m.kept(i, a));
                return;
            }
        }
    }
}
