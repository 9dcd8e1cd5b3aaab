import java.util.ArrayList;
import java.util.Collections;
import java.util.List;

/**
 * The document once more, said in another way than ScopeRunner says it: objects, recursion and lists of entries, with
 * no care for speed or room. ModelTest holds the two against each other.
 */
final class Model {
    static final class Activity {
        int number, role, kind, p, q, mode;
        Activity parent;
        final List<Activity> all = new ArrayList<>();

        List<Activity> children() {
            List<Activity> found = new ArrayList<>();
            for (Activity a : all) {
                if (a.role == 0) {
                    found.add(a);
                }
            }
            return found;
        }

        Activity inRole(int wanted) {
            for (Activity a : all) {
                if (a.role == wanted) {
                    return a;
                }
            }
            return null;
        }

        boolean isBelow(Activity other) {
            return parent != null && (parent == other || parent.isBelow(other));
        }

        Activity scopeAround() {
            return parent == null || parent.kind == Case.SCOPE ? parent : parent.scopeAround();
        }

        Activity handler() {
            return role != 0 ? this : parent == null ? null : parent.handler();
        }
    }

    static final class Link {
        Activity source, target;
        int variable, bound;
    }

    static final class Entry implements Comparable<Entry> {
        int number, own;
        Activity scope;
        List<Entry> list;

        @Override
        public int compareTo(Entry other) {
            return Integer.compare(number, other.number);
        }
    }

    static final class Instance {
        int key, value, state, entriesMade;
        final int[] variables = new int[4];
        final int[] own = new int[24];
        final int[] status = new int[24];
        final int[] faultOf = new int[24];
        final int[] link = new int[16];
        final boolean[] busy = new boolean[24];
        final Activity[] taker = new Activity[24];
        final List<List<Entry>> lists = new ArrayList<>();
        final List<Integer> events = new ArrayList<>();

        Instance() {
            for (int i = 0; i < 24; i++) {
                lists.add(new ArrayList<>());
            }
        }
    }

    final List<Activity> activities = new ArrayList<>();
    final List<Link> links = new ArrayList<>();
    final List<Instance> instances = new ArrayList<>();
    boolean deployed;
    /** How often something rare has happened, so that ModelTest can tell that its runs reach it. */
    static final int[] seen = new int[16];
    private Instance it;

    // ---- the process

    int add(int parent, int role, int kind, int p, int q) {
        if (deployed || activities.size() == 24 || !numbersFit(kind, p, q)) {
            return -1;
        }
        Activity above = activity(parent);
        if (activities.isEmpty()) {
            if (parent != -1 || role != 0 || kind != Case.SCOPE) {
                return -1;
            }
        } else if (above == null || above.kind < 8 || role < 0 || role > 2) {
            return -1;
        } else if (role > 0 && (above.kind != Case.SCOPE || above.inRole(role) != null)) {
            return -1;
        }
        Activity a = new Activity();
        a.number = activities.size();
        a.parent = above;
        a.role = role;
        a.kind = kind;
        a.p = p;
        a.q = q;
        if (above != null) {
            above.all.add(a);
        }
        activities.add(a);
        return a.number;
    }

    private static boolean numbersFit(int kind, int p, int q) {
        boolean pIsVariable = p >= 0 && p <= 4;
        boolean qIsVariable = q >= 0 && q <= 4;
        return switch (kind) {
            case Case.EMPTY, Case.RETHROW, Case.SEQUENCE, Case.FLOW -> true;
            case Case.ADD, Case.IF, Case.WHILE -> pIsVariable;
            case Case.COPY -> pIsVariable && qIsVariable;
            case Case.THROW -> p >= 1 && p <= 99;
            case Case.RECEIVE -> p >= 0 && p <= 7 && qIsVariable;
            case Case.INVOKE -> qIsVariable;
            case Case.COMPENSATE -> p >= 0 && p <= 23;
            case Case.SCOPE -> p >= 0 && p <= 102;
            default -> false;
        };
    }

    private Activity activity(int number) {
        return number < 0 || number >= activities.size() ? null : activities.get(number);
    }

    boolean join(int number, int mode) {
        Activity a = activity(number);
        if (deployed || a == null || mode < 0 || mode > 3) {
            return false;
        }
        a.mode = mode;
        return true;
    }

    int link(int source, int target, int variable, int bound) {
        if (deployed || activity(source) == null || activity(target) == null || variable < -1 || variable > 4) {
            return -1;
        }
        for (Link l : links) {
            if (l.source.number == source && l.target.number == target) {
                return -1;
            }
        }
        if (links.size() == 16) {
            return -1;
        }
        Link l = new Link();
        l.source = activity(source);
        l.target = activity(target);
        l.variable = variable;
        l.bound = bound;
        links.add(l);
        return links.size() - 1;
    }

    int deploy() {
        if (deployed) {
            return -1;
        }
        for (int rule = 1; rule <= 7; rule++) {
            if (isBroken(rule)) {
                return rule;
            }
        }
        deployed = true;
        return 0;
    }

    private boolean isBroken(int rule) {
        if (rule == 1 && activities.isEmpty()) {
            return true;
        }
        if (rule == 6) {
            return hasCircle();
        }
        if (rule == 7) {
            return startIsWrong();
        }
        if (rule == 5) {
            for (Link l : links) {
                if (isWrong(l)) {
                    return true;
                }
            }
            return false;
        }
        for (Activity a : activities) {
            if (rule == 1 && childrenAreWrong(a) || rule == 2 && a.kind == Case.SCOPE && a.handler() != null
                || rule == 3 && placeIsWrong(a) || rule == 4 && a.kind == Case.COMPENSATE && compensateIsWrong(a)) {
                return true;
            }
        }
        return false;
    }

    private static boolean childrenAreWrong(Activity a) {
        int n = a.children().size();
        return switch (a.kind) {
            case Case.SEQUENCE, Case.FLOW -> n == 0;
            case Case.IF -> n == 0 || n > 2;
            case Case.WHILE, Case.SCOPE -> n != 1;
            default -> false;
        };
    }

    private static boolean placeIsWrong(Activity a) {
        Activity h = a.handler();
        return a.kind == Case.RETHROW && (h == null || h.role != 1) || a.kind == Case.COMPENSATE && h == null;
    }

    private boolean compensateIsWrong(Activity a) {
        for (Activity up = a.parent; up != null; up = up.parent) {
            if (up.kind == Case.FLOW && up.handler() != null) {
                return true;
            }
        }
        Activity p = activity(a.p);
        return a.p != 0 && (p == null || p.kind != Case.SCOPE || p.scopeAround() != a.handler().parent);
    }

    private static boolean isWrong(Link l) {
        if (l.source == l.target || l.source.isBelow(l.target) || l.target.isBelow(l.source)) {
            return true;
        }
        Activity f = l.source.parent;
        while (!l.target.isBelow(f)) {
            f = f.parent;
        }
        return f.kind != Case.FLOW || wayIsWrong(l.source, f) || wayIsWrong(l.target, f);
    }

    private static boolean wayIsWrong(Activity end, Activity f) {
        for (Activity a = end; a != f; a = a.parent) {
            if (a.role != 0 || a != end && a.kind == Case.WHILE) {
                return true;
            }
        }
        return false;
    }

    private boolean hasCircle() {
        int n = activities.size();
        boolean[][] before = new boolean[2 * n][2 * n];
        for (Activity a : activities) {
            before[a.number][n + a.number] = true;
            for (Activity b : a.all) {
                before[a.number][b.number] = true;
                before[n + b.number][n + a.number] = true;
            }
            for (int i = 1; a.kind == Case.SEQUENCE && i < a.all.size(); i++) {
                before[n + a.all.get(i - 1).number][a.all.get(i).number] = true;
            }
        }
        for (Link l : links) {
            before[n + l.source.number][l.target.number] = true;
        }
        for (int k = 0; k < 2 * n; k++) {
            for (int i = 0; i < 2 * n; i++) {
                for (int j = 0; j < 2 * n; j++) {
                    before[i][j] |= before[i][k] && before[k][j];
                }
            }
        }
        for (int i = 0; i < 2 * n; i++) {
            if (before[i][i]) {
                return true;
            }
        }
        return false;
    }

    private Activity start() {
        Activity a = activities.get(0).children().get(0);
        while (a.kind == Case.SEQUENCE) {
            a = a.children().get(0);
        }
        return a;
    }

    private boolean startIsWrong() {
        Activity start = start();
        for (Link l : links) {
            if (l.target == start || start.isBelow(l.target)) {
                return true;
            }
        }
        return start.kind != Case.RECEIVE;
    }

    // ---- calls on instances

    private boolean choose(int instance) {
        it = instance < 0 || instance >= instances.size() ? null : instances.get(instance);
        return it != null;
    }

    int message(int operation, int key, int value) {
        for (int i = 0; i < instances.size(); i++) {
            choose(i);
            if (it.state == 0 && it.key == key) {
                for (Activity a : activities) {
                    if (a.kind == Case.RECEIVE && a.p == operation && status(a) == Case.WAITING) {
                        set(a, a.q, value);
                        completes(a);
                        return i;
                    }
                }
                return -1;
            }
        }
        if (!deployed || start().p != operation || instances.size() == 8) {
            return -1;
        }
        Instance made = new Instance();
        made.key = key;
        made.value = value;
        made.status[0] = Case.OPEN;
        instances.add(made);
        return instances.size() - 1;
    }

    int run(int instance, int n) {
        if (!choose(instance) || n < 1 || n > 50) {
            return 0;
        }
        for (int steps = 0; steps < n; steps++) {
            int a = next(instance);
            if (a < 0) {
                return steps;
            }
            step(activities.get(a));
        }
        return n;
    }

    boolean answer(int instance, int number, int fault, int value) {
        Activity a = activity(number);
        if (!choose(instance) || a == null || a.kind != Case.INVOKE || status(a) != Case.WAITING) {
            return false;
        }
        if (fault < 0 || fault > 99) {
            return false;
        }
        if (fault > 0) {
            faults(a, fault);
        } else {
            set(a, a.q, value);
            completes(a);
        }
        return true;
    }

    boolean terminate(int instance) {
        if (!choose(instance) || it.state != 0) {
            return false;
        }
        for (Activity a : activities) {
            if (isActive(a)) {
                become(a, Case.IS_TERMINATED, Case.TERMINATED);
            }
        }
        it.state = 2;
        return true;
    }

    int next(int instance) {
        if (!choose(instance) || it.state != 0) {
            return -1;
        }
        for (Activity a : activities) {
            boolean undoes = status(a) == Case.FAILING || status(a) == Case.UNDOING;
            if (status(a) == Case.OPEN && !linksTo(a).contains(0) || status(a) == Case.AGAIN
                || undoes && !it.busy[a.number]) {
                return a.number;
            }
        }
        return -1;
    }

    int event(int instance, int k) {
        if (!choose(instance) || k < 0 || k > 31 || k >= it.events.size()) {
            return -1;
        }
        return it.events.get(it.events.size() - 1 - k);
    }

    int kept(int instance, int scope) {
        boolean isScope = activity(scope) != null && activity(scope).kind == Case.SCOPE;
        return choose(instance) && isScope ? it.lists.get(scope).size() : -1;
    }

    int own(int instance, int scope) {
        boolean isScope = activity(scope) != null && activity(scope).kind == Case.SCOPE;
        return choose(instance) && isScope ? it.own[scope] : 0;
    }

    // ---- the step

    private int status(Activity a) {
        return it.status[a.number];
    }

    private void status(Activity a, int status) {
        it.status[a.number] = status;
    }

    private boolean isActive(Activity a) {
        return status(a) >= 1 && status(a) <= 7;
    }

    private void event(int event, Activity a) {
        it.events.add(32 * event + a.number);
    }

    private void become(Activity a, int status, int event) {
        status(a, status);
        event(event, a);
    }

    private List<Integer> linksTo(Activity a) {
        List<Integer> found = new ArrayList<>();
        for (int i = 0; i < links.size(); i++) {
            if (links.get(i).target == a) {
                found.add(it.link[i]);
            }
        }
        return found;
    }

    private int get(Activity a, int k) {
        return k < 4 ? it.variables[k] : it.own[a.scopeAround().number];
    }

    private void set(Activity a, int k, int value) {
        if (k < 4) {
            it.variables[k] = value;
        } else {
            it.own[a.scopeAround().number] = value;
        }
    }

    private List<Entry> list(Activity scope) {
        return it.lists.get(scope.number);
    }

    private void empty(Activity scope) {
        it.lists.set(scope.number, new ArrayList<>());
    }

    private void step(Activity a) {
        if (status(a) == Case.FAILING || status(a) == Case.UNDOING) {
            undoes(a);
        } else if (status(a) == Case.AGAIN) {
            loops(a);
        } else {
            List<Integer> in = linksTo(a);
            boolean holds = a.mode % 2 == 0 ? in.contains(1) : !in.contains(2);
            if (in.isEmpty() || holds) {
                event(Case.STARTED, a);
                starts(a);
            } else if (a.mode >= 2) {
                seen[0]++;
                faults(a, 100);
            } else {
                skip(a);
                reports(a);
            }
        }
    }

    private void skip(Activity a) {
        become(a, Case.IS_SKIPPED, Case.SKIPPED);
        close(a);
    }

    private void close(Activity a) {
        for (int i = 0; i < links.size(); i++) {
            Activity source = links.get(i).source;
            if (it.link[i] == 0 && (source == a || source.isBelow(a))) {
                it.link[i] = 2;
            }
        }
    }

    private void starts(Activity a) {
        switch (a.kind) {
            case Case.EMPTY -> completes(a);
            case Case.ADD -> {
                set(a, a.p, get(a, a.p) + a.q);
                completes(a);
            }
            case Case.COPY -> {
                set(a, a.p, get(a, a.q));
                completes(a);
            }
            case Case.THROW -> faults(a, a.p);
            case Case.RETHROW -> faults(a, it.faultOf[a.handler().parent.number]);
            case Case.RECEIVE -> receives(a);
            case Case.INVOKE -> status(a, Case.WAITING);
            case Case.COMPENSATE -> {
                status(a, Case.UNDOING);
                it.busy[a.number] = false;
            }
            case Case.SEQUENCE -> {
                status(a, Case.RUNNING);
                status(a.children().get(0), Case.OPEN);
            }
            case Case.FLOW -> {
                status(a, Case.RUNNING);
                for (Activity b : a.children()) {
                    status(b, Case.OPEN);
                }
            }
            case Case.IF -> chooses(a);
            case Case.WHILE -> loops(a);
            default -> {
                status(a, Case.RUNNING);
                it.own[a.number] = 0;
                empty(a);
                status(a.children().get(0), Case.OPEN);
            }
        }
    }

    private void receives(Activity a) {
        if (a == start()) {
            set(a, a.q, it.value);
            completes(a);
            return;
        }
        for (Activity b : activities) {
            if (b.kind == Case.RECEIVE && b.p == a.p && status(b) == Case.WAITING) {
                seen[1]++;
                faults(a, 101);
                return;
            }
        }
        status(a, Case.WAITING);
    }

    private void chooses(Activity a) {
        status(a, Case.RUNNING);
        int chosen = get(a, a.p) < a.q ? 0 : 1;
        List<Activity> children = a.children();
        for (int i = 0; i < children.size(); i++) {
            if (i != chosen) {
                skip(children.get(i));
            }
        }
        if (chosen < children.size()) {
            status(children.get(chosen), Case.OPEN);
        } else {
            completes(a);
        }
    }

    private void loops(Activity a) {
        if (get(a, a.p) >= a.q) {
            completes(a);
            return;
        }
        status(a, Case.RUNNING);
        for (Activity b : a.all) {
            renew(b);
        }
        status(a.children().get(0), Case.OPEN);
    }

    private void renew(Activity a) {
        status(a, Case.IDLE);
        for (int i = 0; i < links.size(); i++) {
            if (links.get(i).source == a) {
                it.link[i] = 0;
            }
        }
        for (Activity b : a.all) {
            renew(b);
        }
    }

    private void undoes(Activity a) {
        List<Entry> from = list(a.kind == Case.SCOPE ? a : a.handler().parent);
        Entry entry = null;
        for (Entry e : from) {
            if (a.kind == Case.SCOPE || a.p == 0 || e.scope.number == a.p) {
                entry = e;
            }
        }
        if (entry == null) {
            undoesNone(a);
            return;
        }
        from.remove(entry);
        it.busy[a.number] = true;
        Activity c = entry.scope;
        it.taker[c.number] = a;
        event(Case.UNDO, c);
        it.own[c.number] = entry.own;
        it.lists.set(c.number, entry.list);
        if (!entry.list.isEmpty()) {
            seen[2]++;
        }
        Activity handler = c.inRole(2);
        if (handler == null) {
            status(c, Case.UNDOING);
            it.busy[c.number] = false;
        } else {
            status(c, Case.HANDLING);
            renew(handler);
            status(handler, Case.OPEN);
        }
    }

    private void undoesNone(Activity a) {
        if (a.kind == Case.COMPENSATE) {
            completes(a);
        } else if (status(a) == Case.UNDOING) {
            become(a, Case.IS_UNDONE, Case.UNDONE);
            it.busy[it.taker[a.number].number] = false;
        } else {
            faults(a, it.faultOf[a.number]);
        }
    }

    private void completes(Activity a) {
        become(a, Case.IS_DONE, Case.DONE);
        for (int i = 0; i < links.size(); i++) {
            Link l = links.get(i);
            if (l.source == a) {
                if (it.link[i] != 0) {
                    throw new IllegalStateException("a link of one that completes is set");
                }
                it.link[i] = l.variable == -1 || get(a, l.variable) < l.bound ? 1 : 2;
            }
        }
        reports(a);
    }

    private void reports(Activity a) {
        Activity s = a.parent;
        if (s == null) {
            it.state = 1;
            for (Activity b : activities) {
                if (isActive(b)) {
                    throw new IllegalStateException("completed with an active part");
                }
            }
        } else if (a.role == 1) {
            empty(s);
            completes(s);
        } else if (a.role == 2) {
            empty(s);
            become(s, Case.IS_UNDONE, Case.UNDONE);
            it.busy[it.taker[s.number].number] = false;
        } else if (s.kind == Case.SCOPE) {
            bodyReports(a, s);
        } else if (s.kind == Case.WHILE) {
            status(s, Case.AGAIN);
        } else if (s.kind == Case.IF) {
            completes(s);
        } else if (s.kind == Case.SEQUENCE) {
            int at = s.all.indexOf(a);
            if (at + 1 < s.all.size()) {
                status(s.all.get(at + 1), Case.OPEN);
            } else {
                completes(s);
            }
        } else if (s.children().stream().allMatch(b -> status(b) == Case.IS_DONE || status(b) == Case.IS_SKIPPED)) {
            completes(s);
        }
    }

    private void bodyReports(Activity body, Activity s) {
        if (s.parent == null) {
            completes(s);
        } else if (it.entriesMade == 16) {
            seen[3]++;
            faults(body, 102);
        } else {
            Entry e = new Entry();
            e.number = it.entriesMade;
            it.entriesMade++;
            e.scope = s;
            e.own = it.own[s.number];
            e.list = list(s);
            list(s.scopeAround()).add(e);
            empty(s);
            completes(s);
        }
    }

    private void faults(Activity x, int f) {
        become(x, Case.IS_FAULTED, Case.FAULTED);
        if (x.parent == null) {
            it.state = 10 + f;
            for (Activity b : activities) {
                if (isActive(b)) {
                    throw new IllegalStateException("faulted with an active part");
                }
            }
            return;
        }
        Activity r = x;
        while (r.parent.kind != Case.SCOPE) {
            r = r.parent;
        }
        Activity s = r.parent;
        List<Entry> gathered = new ArrayList<>(list(s));
        for (Activity a : activities) {
            if ((a == r || a.isBelow(r)) && isActive(a)) {
                if (a.kind == Case.SCOPE) {
                    seen[4] += list(a).size();
                    seen[5] += status(a) == Case.FAILING || status(a) == Case.HANDLING || status(a) == Case.UNDOING ? 1 : 0;
                    gathered.addAll(list(a));
                    empty(a);
                }
                become(a, Case.IS_TERMINATED, Case.TERMINATED);
            }
        }
        if (r.role == 1) {
            seen[6]++;
            empty(s);
            faults(s, f);
        } else if (r.role == 2) {
            entryFails(s, f);
        } else {
            Collections.sort(gathered);
            it.lists.set(s.number, gathered);
            bodyFaults(r, s, f);
        }
    }

    private void bodyFaults(Activity body, Activity s, int f) {
        close(body);
        it.faultOf[s.number] = f;
        if (s.inRole(1) != null && (s.p == 0 || s.p == f)) {
            seen[7]++;
            become(s, Case.HANDLING, Case.CAUGHT);
            status(s.inRole(1), Case.OPEN);
        } else {
            status(s, Case.FAILING);
            it.busy[s.number] = false;
        }
    }

    private void entryFails(Activity s, int f) {
        empty(s);
        become(s, Case.IS_FAULTED, Case.FAULTED);
        Activity taker = it.taker[s.number];
        it.busy[taker.number] = false;
        if (taker.kind == Case.COMPENSATE) {
            seen[8]++;
            faults(taker, f);
        } else if (status(taker) == Case.UNDOING) {
            seen[9]++;
            entryFails(taker, f);
        } else {
            seen[10]++;
            empty(taker);
            faults(taker, f);
        }
    }
}
