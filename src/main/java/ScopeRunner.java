/**
 * Runs instances of one process: a tree of activities with flows, links, scopes and messages.
 * The words of the document (OPEN, COMPLETES, REPORTS, FAULTS, BUSY, ..) are used here as it uses them.
 */
public final class ScopeRunner {
    private static final int NONE = -1;
    private static final int ROOT = 0;

    private static final int MAX_ACTIVITIES = 24;
    private static final int MAX_LINKS = 16;
    private static final int MAX_INSTANCES = 8;
    private static final int MAX_ENTRIES = 16;
    private static final int MAX_STEPS = 50;
    private static final int MAX_MODE = 3;
    private static final int MAX_OPERATION = 7;
    private static final int EVENTS_TOLD = 32;

    private static final int SHARED_VARIABLES = 4;
    private static final int OWN_VARIABLE = 4;
    private static final int ALWAYS = -1;

    private static final int MAX_RAISED_FAULT = 99;
    private static final int JOIN_FAULT = 100;
    private static final int RECEIVE_FAULT = 101;
    private static final int ENTRY_FAULT = 102;

    private static final int PLAIN = 0;
    private static final int FAULT_HANDLER = 1;
    private static final int UNDO_HANDLER = 2;

    private final Plan plan;
    private final Rules rules;
    private final Instance[] instances;
    private int made;
    private boolean deployed;

    public ScopeRunner() {
        plan = new Plan();
        rules = new Rules(plan);
        instances = new Instance[MAX_INSTANCES];
    }

    public int add(int parent, int role, int kind, int p, int q) {
        if (deployed || !Kind.fits(kind, p, q) || !plan.hasPlaceFor(parent, role, kind)) {
            return -1;
        }
        return plan.append(parent, role, kind, p, q);
    }

    public boolean join(int activity, int mode) {
        if (deployed || !plan.hasActivity(activity) || mode < 0 || mode > MAX_MODE) {
            return false;
        }
        plan.modes[activity] = mode;
        return true;
    }

    public int link(int source, int target, int variable, int bound) {
        boolean known = plan.hasActivity(source) && plan.hasActivity(target);
        boolean condition = variable == ALWAYS || Kind.isVariable(variable);
        if (deployed || !known || !condition || plan.linkCount >= MAX_LINKS || plan.isLinked(source, target)) {
            return -1;
        }
        return plan.appendLink(source, target, variable, bound);
    }

    public int deploy() {
        if (deployed) {
            return -1;
        }
        int broken = rules.leastBroken();
        deployed = broken == 0;
        return broken;
    }

    public int message(int operation, int key, int value) {
        int running = runningWith(key);
        Instance it = find(running);
        if (it != null) {
            return it.takeMessage(operation, value) ? running : -1;
        }
        if (!deployed || made >= MAX_INSTANCES || !plan.startsWith(operation)) {
            return -1;
        }
        instances[made] = new Instance(plan, key, value);
        made++;
        return made - 1;
    }

    public int run(int instance, int n) {
        Instance it = find(instance);
        if (it == null || n < 1 || n > MAX_STEPS) {
            return 0;
        }
        int steps = 0;
        while (steps < n && it.makeStep()) {
            steps++;
        }
        return steps;
    }

    public boolean answer(int instance, int activity, int fault, int value) {
        Instance it = find(instance);
        if (it == null || !plan.hasActivity(activity) || fault < 0 || fault > MAX_RAISED_FAULT) {
            return false;
        }
        return it.takeAnswer(activity, fault, value);
    }

    public boolean terminate(int instance) {
        Instance it = find(instance);
        return it != null && it.endNow();
    }

    public int state(int instance) {
        Instance it = find(instance);
        return it == null ? -1 : it.outcome;
    }

    public int status(int instance, int activity) {
        Instance it = find(instance);
        return it == null || !plan.hasActivity(activity) ? -1 : it.statuses[activity];
    }

    public int variable(int instance, int k) {
        Instance it = find(instance);
        return it == null || k < 0 || k >= SHARED_VARIABLES ? 0 : it.variables.shared[k];
    }

    public int own(int instance, int scope) {
        Instance it = find(instance);
        return it == null || !plan.hasScope(scope) ? 0 : it.variables.owned[scope];
    }

    public int linkState(int instance, int link) {
        Instance it = find(instance);
        return it == null || link < 0 || link >= plan.linkCount ? -1 : it.links.values[link];
    }

    public int kept(int instance, int scope) {
        Instance it = find(instance);
        return it == null || !plan.hasScope(scope) ? -1 : it.entries.countIn(scope);
    }

    public int events(int instance) {
        Instance it = find(instance);
        return it == null ? -1 : it.log.count;
    }

    public int event(int instance, int k) {
        Instance it = find(instance);
        return it == null ? -1 : it.log.before(k);
    }

    public int next(int instance) {
        Instance it = find(instance);
        return it == null ? -1 : it.nextToStep();
    }

    private Instance find(int instance) {
        return instance < 0 || instance >= made ? null : instances[instance];
    }

    private int runningWith(int key) {
        for (int i = 0; i < made; i++) {
            Instance it = find(i);
            if (it != null && it.key == key && it.outcome == Instance.RUNNING) {
                return i;
            }
        }
        return NONE;
    }

    /** The kinds of activities and what their numbers may be. */
    private static final class Kind {
        static final int EMPTY = 0;
        static final int ADD = 1;
        static final int COPY = 2;
        static final int THROW = 3;
        static final int RETHROW = 4;
        static final int RECEIVE = 5;
        static final int INVOKE = 6;
        static final int COMPENSATE = 7;
        static final int SEQUENCE = 8;
        static final int FLOW = 9;
        static final int IF = 10;
        static final int WHILE = 11;
        static final int SCOPE = 12;

        static boolean isVariable(int k) {
            return k >= 0 && k <= OWN_VARIABLE;
        }

        static boolean fits(int kind, int p, int q) {
            switch (kind) {
                case ADD:
                case IF:
                case WHILE:
                    return isVariable(p);
                case COPY:
                    return isVariable(p) && isVariable(q);
                case THROW:
                    return p >= 1 && p <= MAX_RAISED_FAULT;
                case RECEIVE:
                    return p >= 0 && p <= MAX_OPERATION && isVariable(q);
                case INVOKE:
                    return isVariable(q);
                case COMPENSATE:
                    return p >= 0 && p < MAX_ACTIVITIES;
                case SCOPE:
                    return p >= 0 && p <= ENTRY_FAULT;
                default:
                    return kind == EMPTY || kind == RETHROW || kind == SEQUENCE || kind == FLOW;
            }
        }
    }

    /** The statuses of an activity in an instance. */
    private static final class Status {
        static final int IDLE = 0;
        static final int OPEN = 1;
        static final int RUNNING = 2;
        static final int WAITING = 3;
        static final int AGAIN = 4;
        static final int HANDLING = 5;
        static final int FAILING = 6;
        static final int UNDOING = 7;
        static final int DONE = 8;
        static final int SKIPPED = 9;
        static final int FAULTED = 10;
        static final int TERMINATED = 11;
        static final int UNDONE = 12;

        static boolean isActive(int status) {
            return status >= OPEN && status <= UNDOING;
        }
    }

    /** The process: its activities and its links. */
    private static final class Plan {
        final int[] parents = new int[MAX_ACTIVITIES];
        final int[] roles = new int[MAX_ACTIVITIES];
        final int[] kinds = new int[MAX_ACTIVITIES];
        final int[] ps = new int[MAX_ACTIVITIES];
        final int[] qs = new int[MAX_ACTIVITIES];
        final int[] modes = new int[MAX_ACTIVITIES];
        final int[] scopesAround = new int[MAX_ACTIVITIES];
        /** The handler in which an activity lies, or NONE. */
        final int[] handlers = new int[MAX_ACTIVITIES];
        /** The activity itself or the nearest one above it whose parent is a SCOPE: where its fault ends. */
        final int[] branches = new int[MAX_ACTIVITIES];
        /** A set as bits: the activity and all below it. */
        final int[] within = new int[MAX_ACTIVITIES];
        int size;
        final int[] sources = new int[MAX_LINKS];
        final int[] targets = new int[MAX_LINKS];
        final int[] conditions = new int[MAX_LINKS];
        final int[] bounds = new int[MAX_LINKS];
        int linkCount;

        static boolean isIn(int activity, int set) {
            return (set >> activity & 1) != 0;
        }

        boolean hasActivity(int a) {
            return a >= 0 && a < size;
        }

        boolean hasScope(int a) {
            return hasActivity(a) && kinds[a] == Kind.SCOPE;
        }

        boolean hasPlaceFor(int parent, int role, int kind) {
            if (size == 0) {
                return parent == NONE && role == PLAIN && kind == Kind.SCOPE;
            }
            if (size >= MAX_ACTIVITIES || !hasActivity(parent) || kinds[parent] < Kind.SEQUENCE) {
                return false;
            }
            if (role == FAULT_HANDLER || role == UNDO_HANDLER) {
                return kinds[parent] == Kind.SCOPE && handlerOf(parent, role) == NONE;
            }
            return role == PLAIN;
        }

        int append(int parent, int role, int kind, int p, int q) {
            int a = size;
            parents[a] = parent;
            roles[a] = role;
            kinds[a] = kind;
            ps[a] = p;
            qs[a] = q;
            boolean inScope = hasScope(parent);
            boolean inOther = hasActivity(parent) && !inScope;
            scopesAround[a] = inOther ? scopesAround[parent] : parent;
            branches[a] = inOther ? branches[parent] : a;
            handlers[a] = role != PLAIN ? a : hasActivity(parent) ? handlers[parent] : NONE;
            for (int b = 0; b < a; b++) {
                if (isIn(parent, within[b])) {
                    within[b] |= 1 << a;
                }
            }
            within[a] = 1 << a;
            size++;
            return a;
        }

        boolean isLinked(int source, int target) {
            for (int i = 0; i < linkCount; i++) {
                if (sources[i] == source && targets[i] == target) {
                    return true;
                }
            }
            return false;
        }

        int appendLink(int source, int target, int variable, int bound) {
            sources[linkCount] = source;
            targets[linkCount] = target;
            conditions[linkCount] = variable;
            bounds[linkCount] = bound;
            linkCount++;
            return linkCount - 1;
        }

        boolean isBelow(int a, int b) {
            return a != b && isIn(a, within[b]);
        }

        boolean isTarget(int a) {
            for (int i = 0; i < linkCount; i++) {
                if (targets[i] == a) {
                    return true;
                }
            }
            return false;
        }

        int handlerOf(int scope, int role) {
            for (int a = 0; a < size; a++) {
                if (parents[a] == scope && roles[a] == role) {
                    return a;
                }
            }
            return NONE;
        }

        int childAfter(int parent, int earlier) {
            for (int a = earlier + 1; a < size; a++) {
                if (parents[a] == parent && roles[a] == PLAIN) {
                    return a;
                }
            }
            return NONE;
        }

        int firstChild(int parent) {
            return childAfter(parent, parent);
        }

        int countChildren(int parent) {
            int count = 0;
            for (int a = 0; a < size; a++) {
                if (parents[a] == parent && roles[a] == PLAIN) {
                    count++;
                }
            }
            return count;
        }

        int findStart() {
            int a = firstChild(ROOT);
            for (int i = 0; i < size && a != NONE && kinds[a] == Kind.SEQUENCE; i++) {
                a = firstChild(a);
            }
            return a;
        }

        boolean startsWith(int operation) {
            int start = findStart();
            return start != NONE && ps[start] == operation;
        }
    }

    /** The rules for deploying; each is looked at only when those before it hold, and may lean on them. */
    private static final class Rules {
        private final Plan plan;
        /** For each beginning (2 * activity) and end (2 * activity + 1) those just before it, as bits. */
        private final long[] before = new long[2 * MAX_ACTIVITIES];

        Rules(Plan plan) {
            this.plan = plan;
        }

        int leastBroken() {
            if (!childrenAreRight()) {
                return 1;
            }
            if (!handlersAreFlat()) {
                return 2;
            }
            if (!handlerKindsAreInside()) {
                return 3;
            }
            if (!compensatesAreRight()) {
                return 4;
            }
            if (!linksAreRight()) {
                return 5;
            }
            if (!orderIsRight()) {
                return 6;
            }
            return startIsRight() ? 0 : 7;
        }

        private boolean childrenAreRight() {
            for (int a = 0; a < plan.size; a++) {
                if (!mayHave(plan.kinds[a], plan.countChildren(a))) {
                    return false;
                }
            }
            return plan.size > 0;
        }

        private static boolean mayHave(int kind, int children) {
            switch (kind) {
                case Kind.SEQUENCE:
                case Kind.FLOW:
                    return children >= 1;
                case Kind.IF:
                    return children == 1 || children == 2;
                case Kind.WHILE:
                case Kind.SCOPE:
                    return children == 1;
                default:
                    return true;
            }
        }

        private boolean handlersAreFlat() {
            for (int a = 0; a < plan.size; a++) {
                if (plan.kinds[a] == Kind.SCOPE && plan.handlers[a] != NONE) {
                    return false;
                }
            }
            return true;
        }

        private boolean handlerKindsAreInside() {
            for (int a = 0; a < plan.size; a++) {
                int handler = plan.handlers[a];
                boolean inHandler = handler != NONE;
                boolean inFaultHandler = inHandler && plan.roles[handler] == FAULT_HANDLER;
                if (plan.kinds[a] == Kind.RETHROW && !inFaultHandler) {
                    return false;
                }
                if (plan.kinds[a] == Kind.COMPENSATE && !inHandler) {
                    return false;
                }
            }
            return true;
        }

        private boolean compensatesAreRight() {
            for (int a = 0; a < plan.size; a++) {
                if (plan.kinds[a] == Kind.COMPENSATE && (isInHandlersFlow(a) || !mayUndo(a, plan.ps[a]))) {
                    return false;
                }
            }
            return true;
        }

        private boolean isInHandlersFlow(int a) {
            for (int b = 0; b < a; b++) {
                if (plan.kinds[b] == Kind.FLOW && plan.handlers[b] != NONE && plan.isBelow(a, b)) {
                    return true;
                }
            }
            return false;
        }

        private boolean mayUndo(int compensate, int p) {
            return p == 0 || plan.hasScope(p) && plan.scopesAround[p] == plan.scopesAround[compensate];
        }

        private boolean linksAreRight() {
            for (int i = 0; i < plan.linkCount; i++) {
                if (!linkIsRight(plan.sources[i], plan.targets[i])) {
                    return false;
                }
            }
            return true;
        }

        private boolean linkIsRight(int source, int target) {
            if (source == target || plan.isBelow(source, target) || plan.isBelow(target, source)) {
                return false;
            }
            int flow = nearestAbove(source, target);
            return flow != NONE && plan.kinds[flow] == Kind.FLOW && mayReach(source, flow) && mayReach(target, flow);
        }

        /** Those above an activity have lower numbers the further up they are, so the highest is the nearest. */
        private int nearestAbove(int source, int target) {
            for (int a = Math.min(source, target) - 1; a >= 0; a--) {
                if (plan.isBelow(source, a) && plan.isBelow(target, a)) {
                    return a;
                }
            }
            return NONE;
        }

        private boolean mayReach(int end, int flow) {
            for (int a = flow + 1; a <= end; a++) {
                if (Plan.isIn(end, plan.within[a]) && plan.isBelow(a, flow)) {
                    boolean loops = a != end && plan.kinds[a] == Kind.WHILE;
                    if (loops || plan.roles[a] != PLAIN) {
                        return false;
                    }
                }
            }
            return true;
        }

        private boolean orderIsRight() {
            noteTree();
            noteLinks();
            int nodes = 2 * plan.size;
            long left = (1L << nodes) - 1;
            for (int round = 0; round < nodes && left != 0; round++) {
                left = withoutFirst(left);
            }
            return left == 0;
        }

        private void noteTree() {
            for (int a = 0; a < plan.size; a++) {
                before[beginning(a)] = 0;
                before[end(a)] = bit(beginning(a));
                int parent = plan.parents[a];
                if (parent >= 0) {
                    before[beginning(a)] |= bit(beginning(parent));
                    before[end(parent)] |= bit(end(a));
                    noteNextInSequence(a, parent);
                }
            }
        }

        private void noteNextInSequence(int a, int parent) {
            int earlier = NONE;
            for (int b = parent + 1; b < a; b++) {
                if (plan.parents[b] == parent) {
                    earlier = b;
                }
            }
            if (earlier != NONE && plan.kinds[parent] == Kind.SEQUENCE) {
                before[beginning(a)] |= bit(end(earlier));
            }
        }

        private void noteLinks() {
            for (int i = 0; i < plan.linkCount; i++) {
                before[beginning(plan.targets[i])] |= bit(end(plan.sources[i]));
            }
        }

        private long withoutFirst(long left) {
            long rest = left;
            for (int node = 0; node < 2 * plan.size; node++) {
                if ((before[node] & left) == 0) {
                    rest &= ~bit(node);
                }
            }
            return rest;
        }

        private static int beginning(int a) {
            return 2 * a;
        }

        private static int end(int a) {
            return 2 * a + 1;
        }

        private static long bit(int node) {
            return 1L << node;
        }

        private boolean startIsRight() {
            int start = plan.findStart();
            if (start == NONE || plan.kinds[start] != Kind.RECEIVE) {
                return false;
            }
            for (int a = 1; a <= start; a++) {
                if (Plan.isIn(start, plan.within[a]) && plan.isTarget(a)) {
                    return false;
                }
            }
            return true;
        }
    }

    /** The variables of an instance, as its activities see them. */
    private static final class Variables {
        private final Plan plan;
        final int[] shared = new int[SHARED_VARIABLES];
        final int[] owned = new int[MAX_ACTIVITIES];

        Variables(Plan plan) {
            this.plan = plan;
        }

        int read(int a, int k) {
            if (k >= 0 && k < SHARED_VARIABLES) {
                return shared[k];
            }
            int scope = plan.scopesAround[a];
            return scope == NONE ? 0 : owned[scope];
        }

        void write(int a, int k, int value) {
            int scope = plan.scopesAround[a];
            if (k >= 0 && k < SHARED_VARIABLES) {
                shared[k] = value;
            } else if (scope != NONE) {
                owned[scope] = value;
            }
        }
    }

    /** The links of an instance. Sets of sources are bits. */
    private static final class Links {
        static final int UNSET = 0;
        static final int TRUE = 1;
        static final int FALSE = 2;

        private final Plan plan;
        final int[] values = new int[MAX_LINKS];

        Links(Plan plan) {
            this.plan = plan;
        }

        private int countTo(int target, int value) {
            int count = 0;
            for (int i = 0; i < plan.linkCount; i++) {
                if (plan.targets[i] == target && values[i] == value) {
                    count++;
                }
            }
            return count;
        }

        boolean areSetTo(int target) {
            return countTo(target, UNSET) == 0;
        }

        boolean joinHoldsAt(int target) {
            boolean all = plan.modes[target] == 1 || plan.modes[target] == 3;
            return !plan.isTarget(target)
                || (all ? countTo(target, FALSE) == 0 : countTo(target, TRUE) > 0);
        }

        void decideFrom(int source, Variables variables) {
            for (int i = 0; i < plan.linkCount; i++) {
                if (plan.sources[i] == source) {
                    int k = plan.conditions[i];
                    boolean holds = k == ALWAYS || variables.read(source, k) < plan.bounds[i];
                    values[i] = holds ? TRUE : FALSE;
                }
            }
        }

        void closeFrom(int set) {
            for (int i = 0; i < plan.linkCount; i++) {
                if (values[i] == UNSET && Plan.isIn(plan.sources[i], set)) {
                    values[i] = FALSE;
                }
            }
        }

        void unsetFrom(int set) {
            for (int i = 0; i < plan.linkCount; i++) {
                if (Plan.isIn(plan.sources[i], set)) {
                    values[i] = UNSET;
                }
            }
        }
    }

    /**
     * All entries of an instance, numbered as they are made. Each has a place: the list of a scope, the list of
     * another entry, or none; as lists are ordered by when entries were made, the place alone tells them.
     */
    private static final class Entries {
        private static final int ENTRY_LISTS = MAX_ACTIVITIES;

        final int[] scopes = new int[MAX_ENTRIES];
        final int[] owned = new int[MAX_ENTRIES];
        private final int[] places = new int[MAX_ENTRIES];
        private int count;

        boolean areUsedUp() {
            return count >= MAX_ENTRIES;
        }

        void make(int scope, int own, int around) {
            if (count >= MAX_ENTRIES) {
                return;
            }
            moveAll(scope, ENTRY_LISTS + count);
            scopes[count] = scope;
            owned[count] = own;
            places[count] = around;
            count++;
        }

        /** The latest entry in the list of a scope, of those for the wanted scope if that is not 0. */
        int latestIn(int list, int wanted) {
            for (int e = count - 1; e >= 0; e--) {
                if (places[e] == list && (wanted == 0 || scopes[e] == wanted)) {
                    return e;
                }
            }
            return NONE;
        }

        void handBack(int entry) {
            places[entry] = NONE;
            clear(scopes[entry]);
            moveAll(ENTRY_LISTS + entry, scopes[entry]);
        }

        void clear(int scope) {
            moveAll(scope, NONE);
        }

        private void moveAll(int from, int to) {
            for (int e = 0; e < count; e++) {
                if (places[e] == from) {
                    places[e] = to;
                }
            }
        }

        void gather(int setOfScopes, int scope) {
            for (int e = 0; e < count; e++) {
                boolean listed = places[e] >= 0 && places[e] < ENTRY_LISTS;
                if (listed && Plan.isIn(places[e], setOfScopes)) {
                    places[e] = scope;
                }
            }
        }

        int countIn(int scope) {
            int found = 0;
            for (int e = 0; e < count; e++) {
                if (places[e] == scope) {
                    found++;
                }
            }
            return found;
        }
    }

    /** The events of an instance: how many, and the latest ones. */
    private static final class EventLog {
        static final int STARTED = 1;
        static final int DONE = 2;
        static final int SKIPPED = 3;
        static final int FAULTED = 4;
        static final int TERMINATED = 5;
        static final int CAUGHT = 6;
        static final int UNDO = 7;
        static final int UNDONE = 8;

        private final int[] latest = new int[EVENTS_TOLD];
        int count;

        void write(int happening, int activity) {
            latest[count % EVENTS_TOLD] = 32 * happening + activity;
            count++;
        }

        int before(int k) {
            if (k < 0 || k >= EVENTS_TOLD || k >= count) {
                return -1;
            }
            return latest[(count - 1 - k) % EVENTS_TOLD];
        }
    }

    /**
     * One instance. What follows from a step, a message or an answer (COMPLETES, REPORTS, FAULTS, an entry that
     * FAILS) is a chain in which each part leads to one more at most: the part that is due is noted, and settle
     * goes on until none is, so that no call nests deeper in a deeper tree.
     */
    private static final class Instance {
        static final int RUNNING = 0;
        static final int COMPLETED = 1;
        static final int ENDED = 2;
        static final int FAULT_OUTCOMES = 10;

        private static final int NOTHING = 0;
        private static final int COMPLETES = 1;
        private static final int REPORTS = 2;
        private static final int FAULTS = 3;
        private static final int ENTRY_FAILS = 4;
        /** A chain goes up the tree, at most some parts an activity. */
        private static final int MAX_CHAIN = 1000;

        private final Plan plan;
        private final int start;
        final int key;
        private final int startValue;
        int outcome;
        final int[] statuses = new int[MAX_ACTIVITIES];
        private final int[] faultsOf = new int[MAX_ACTIVITIES];
        private final int[] takers = new int[MAX_ACTIVITIES];
        private final boolean[] busy = new boolean[MAX_ACTIVITIES];
        final Variables variables;
        final Links links;
        final Entries entries;
        final EventLog log;
        private int due;
        private int dueActivity;
        private int dueFault;

        Instance(Plan plan, int key, int startValue) {
            this.plan = plan;
            this.start = plan.findStart();
            this.key = key;
            this.startValue = startValue;
            variables = new Variables(plan);
            links = new Links(plan);
            entries = new Entries();
            log = new EventLog();
            outcome = RUNNING;
            statuses[ROOT] = Status.OPEN;
        }

        int nextToStep() {
            for (int a = 0; a < plan.size && outcome == RUNNING; a++) {
                if (canStep(a)) {
                    return a;
                }
            }
            return NONE;
        }

        private boolean canStep(int a) {
            switch (statuses[a]) {
                case Status.OPEN:
                    return links.areSetTo(a);
                case Status.AGAIN:
                    return true;
                case Status.FAILING:
                case Status.UNDOING:
                    return !busy[a];
                default:
                    return false;
            }
        }

        boolean makeStep() {
            int a = nextToStep();
            if (a == NONE) {
                return false;
            }
            if (statuses[a] == Status.AGAIN) {
                loop(a);
            } else if (statuses[a] != Status.OPEN) {
                undoLatest(a);
            } else if (links.joinHoldsAt(a)) {
                begin(a);
            } else {
                missJoin(a);
            }
            settle();
            return true;
        }

        boolean takeMessage(int operation, int value) {
            int receive = waitingReceive(operation);
            if (receive == NONE) {
                return false;
            }
            variables.write(receive, plan.qs[receive], value);
            completes(receive);
            settle();
            return true;
        }

        boolean takeAnswer(int a, int fault, int value) {
            if (plan.kinds[a] != Kind.INVOKE || statuses[a] != Status.WAITING) {
                return false;
            }
            if (fault == 0) {
                variables.write(a, plan.qs[a], value);
                completes(a);
            } else {
                faults(a, fault);
            }
            settle();
            return true;
        }

        boolean endNow() {
            if (outcome != RUNNING) {
                return false;
            }
            endWithin(plan.within[ROOT]);
            outcome = ENDED;
            return true;
        }

        private int waitingReceive(int operation) {
            for (int a = 0; a < plan.size; a++) {
                if (plan.kinds[a] == Kind.RECEIVE && plan.ps[a] == operation && statuses[a] == Status.WAITING) {
                    return a;
                }
            }
            return NONE;
        }

        private void become(int a, int status, int happening) {
            statuses[a] = status;
            log.write(happening, a);
        }

        private void completes(int a) {
            due = COMPLETES;
            dueActivity = a;
        }

        private void reports(int a) {
            due = REPORTS;
            dueActivity = a;
        }

        private void faults(int a, int fault) {
            due = FAULTS;
            dueActivity = a;
            dueFault = fault;
        }

        private void entryFails(int scope, int fault) {
            due = ENTRY_FAILS;
            dueActivity = scope;
            dueFault = fault;
        }

        private void settle() {
            for (int part = 0; part < MAX_CHAIN && due != NOTHING; part++) {
                int now = due;
                due = NOTHING;
                switch (now) {
                    case COMPLETES:
                        complete(dueActivity);
                        break;
                    case REPORTS:
                        report(dueActivity);
                        break;
                    case FAULTS:
                        fault(dueActivity, dueFault);
                        break;
                    default:
                        failEntry(dueActivity, dueFault);
                        break;
                }
            }
        }

        private void missJoin(int a) {
            if (plan.modes[a] >= 2) {
                faults(a, JOIN_FAULT);
            } else {
                skip(a);
                reports(a);
            }
        }

        private void skip(int a) {
            become(a, Status.SKIPPED, EventLog.SKIPPED);
            links.closeFrom(plan.within[a]);
        }

        private void begin(int a) {
            int p = plan.ps[a];
            int q = plan.qs[a];
            log.write(EventLog.STARTED, a);
            switch (plan.kinds[a]) {
                case Kind.ADD:
                    variables.write(a, p, variables.read(a, p) + q);
                    completes(a);
                    break;
                case Kind.COPY:
                    variables.write(a, p, variables.read(a, q));
                    completes(a);
                    break;
                case Kind.THROW:
                    faults(a, p);
                    break;
                case Kind.RETHROW:
                    faults(a, faultsOf[plan.scopesAround[a]]);
                    break;
                case Kind.RECEIVE:
                    beginReceive(a);
                    break;
                case Kind.INVOKE:
                    statuses[a] = Status.WAITING;
                    break;
                case Kind.COMPENSATE:
                    becomeUndoer(a, Status.UNDOING);
                    break;
                case Kind.SEQUENCE:
                    statuses[a] = Status.RUNNING;
                    openOrComplete(plan.firstChild(a), a);
                    break;
                case Kind.FLOW:
                    beginFlow(a);
                    break;
                case Kind.IF:
                    beginIf(a);
                    break;
                case Kind.WHILE:
                    loop(a);
                    break;
                case Kind.SCOPE:
                    beginScope(a);
                    break;
                default:
                    completes(a);
                    break;
            }
        }

        private void beginReceive(int a) {
            if (a == start) {
                variables.write(a, plan.qs[a], startValue);
                completes(a);
            } else if (waitingReceive(plan.ps[a]) != NONE) {
                faults(a, RECEIVE_FAULT);
            } else {
                statuses[a] = Status.WAITING;
            }
        }

        private void beginFlow(int a) {
            statuses[a] = Status.RUNNING;
            for (int child = a + 1; child < plan.size; child++) {
                if (plan.parents[child] == a) {
                    statuses[child] = Status.OPEN;
                }
            }
        }

        private void beginIf(int a) {
            int first = plan.firstChild(a);
            int second = plan.childAfter(a, first);
            boolean holds = conditionHolds(a);
            int chosen = holds ? first : second;
            int other = holds ? second : first;
            statuses[a] = Status.RUNNING;
            if (other != NONE) {
                skip(other);
            }
            openOrComplete(chosen, a);
        }

        private boolean conditionHolds(int a) {
            return variables.read(a, plan.ps[a]) < plan.qs[a];
        }

        private void loop(int a) {
            if (conditionHolds(a)) {
                statuses[a] = Status.RUNNING;
                renew(plan.within[a] & ~(1 << a));
                openOrComplete(plan.firstChild(a), a);
            } else {
                completes(a);
            }
        }

        private void renew(int set) {
            for (int a = 0; a < plan.size; a++) {
                if (Plan.isIn(a, set)) {
                    statuses[a] = Status.IDLE;
                }
            }
            links.unsetFrom(set);
        }

        private void beginScope(int a) {
            statuses[a] = Status.RUNNING;
            variables.owned[a] = 0;
            entries.clear(a);
            openOrComplete(plan.firstChild(a), a);
        }

        private void becomeUndoer(int a, int status) {
            statuses[a] = status;
            busy[a] = false;
        }

        private void undoLatest(int a) {
            boolean compensate = plan.kinds[a] == Kind.COMPENSATE;
            int list = compensate ? plan.scopesAround[a] : a;
            int entry = entries.latestIn(list, compensate ? plan.ps[a] : 0);
            if (entry != NONE) {
                undo(entry, a);
            } else if (compensate) {
                completes(a);
            } else if (statuses[a] == Status.UNDOING) {
                endUndo(a, Status.UNDONE, EventLog.UNDONE);
            } else {
                faults(a, faultsOf[a]);
            }
        }

        private void undo(int entry, int taker) {
            int scope = entries.scopes[entry];
            busy[taker] = true;
            takers[scope] = taker;
            log.write(EventLog.UNDO, scope);
            variables.owned[scope] = entries.owned[entry];
            entries.handBack(entry);
            int handler = plan.handlerOf(scope, UNDO_HANDLER);
            if (handler == NONE) {
                becomeUndoer(scope, Status.UNDOING);
            } else {
                statuses[scope] = Status.HANDLING;
                renew(plan.within[handler]);
                statuses[handler] = Status.OPEN;
            }
        }

        private void endUndo(int scope, int status, int happening) {
            entries.clear(scope);
            become(scope, status, happening);
            busy[takers[scope]] = false;
        }

        private void complete(int a) {
            become(a, Status.DONE, EventLog.DONE);
            links.decideFrom(a, variables);
            reports(a);
        }

        private void report(int a) {
            int parent = plan.parents[a];
            if (parent < 0) {
                outcome = COMPLETED;
            } else if (plan.roles[a] == FAULT_HANDLER) {
                entries.clear(parent);
                completes(parent);
            } else if (plan.roles[a] == UNDO_HANDLER) {
                endUndo(parent, Status.UNDONE, EventLog.UNDONE);
            } else if (plan.kinds[parent] == Kind.SCOPE) {
                endBody(parent, a);
            } else if (plan.kinds[parent] == Kind.WHILE) {
                statuses[parent] = Status.AGAIN;
            } else if (plan.kinds[parent] == Kind.SEQUENCE) {
                openOrComplete(plan.childAfter(parent, a), parent);
            } else if (plan.kinds[parent] == Kind.IF || allChildrenEnded(parent)) {
                completes(parent);
            }
        }

        private void openOrComplete(int child, int parent) {
            if (child == NONE) {
                completes(parent);
            } else {
                statuses[child] = Status.OPEN;
            }
        }

        private boolean allChildrenEnded(int flow) {
            for (int a = flow + 1; a < plan.size; a++) {
                boolean ended = statuses[a] == Status.DONE || statuses[a] == Status.SKIPPED;
                if (plan.parents[a] == flow && !ended) {
                    return false;
                }
            }
            return true;
        }

        private void endBody(int scope, int body) {
            if (scope == ROOT) {
                completes(scope);
            } else if (entries.areUsedUp()) {
                faults(body, ENTRY_FAULT);
            } else {
                entries.make(scope, variables.owned[scope], plan.scopesAround[scope]);
                completes(scope);
            }
        }

        private void fault(int a, int fault) {
            become(a, Status.FAULTED, EventLog.FAULTED);
            if (a == ROOT) {
                outcome = FAULT_OUTCOMES + fault;
                return;
            }
            int branch = plan.branches[a];
            int scope = plan.parents[branch];
            int ended = endWithin(plan.within[branch]);
            if (plan.roles[branch] == FAULT_HANDLER) {
                entries.clear(scope);
                faults(scope, fault);
            } else if (plan.roles[branch] == UNDO_HANDLER) {
                entryFails(scope, fault);
            } else {
                entries.gather(ended, scope);
                links.closeFrom(plan.within[branch]);
                takeFault(scope, fault);
            }
        }

        private int endWithin(int set) {
            int ended = 0;
            for (int a = 0; a < plan.size; a++) {
                if (Plan.isIn(a, set) && Status.isActive(statuses[a])) {
                    become(a, Status.TERMINATED, EventLog.TERMINATED);
                    ended |= 1 << a;
                }
            }
            return ended;
        }

        private void takeFault(int scope, int fault) {
            faultsOf[scope] = fault;
            int handler = plan.handlerOf(scope, FAULT_HANDLER);
            boolean catches = plan.ps[scope] == 0 || plan.ps[scope] == fault;
            if (handler != NONE && catches) {
                become(scope, Status.HANDLING, EventLog.CAUGHT);
                statuses[handler] = Status.OPEN;
            } else {
                becomeUndoer(scope, Status.FAILING);
            }
        }

        private void failEntry(int scope, int fault) {
            endUndo(scope, Status.FAULTED, EventLog.FAULTED);
            int taker = takers[scope];
            if (plan.kinds[taker] == Kind.COMPENSATE) {
                faults(taker, fault);
            } else if (statuses[taker] == Status.UNDOING) {
                entryFails(taker, fault);
            } else {
                entries.clear(taker);
                faults(taker, fault);
            }
        }
    }
}
