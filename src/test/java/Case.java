/** What the tests share: the document's numbers by name, and the counting of answers that are not due. */
abstract class Case {
    static final int LOW = Integer.MIN_VALUE, HIGH = Integer.MAX_VALUE;

    static final int EMPTY = 0, ADD = 1, COPY = 2, THROW = 3, RETHROW = 4, RECEIVE = 5, INVOKE = 6, COMPENSATE = 7;
    static final int SEQUENCE = 8, FLOW = 9, IF = 10, WHILE = 11, SCOPE = 12;

    static final int IDLE = 0, OPEN = 1, RUNNING = 2, WAITING = 3, AGAIN = 4, HANDLING = 5, FAILING = 6, UNDOING = 7;
    static final int IS_DONE = 8, IS_SKIPPED = 9, IS_FAULTED = 10, IS_TERMINATED = 11, IS_UNDONE = 12;

    static final int STARTED = 1, DONE = 2, SKIPPED = 3, FAULTED = 4, TERMINATED = 5, CAUGHT = 6, UNDO = 7, UNDONE = 8;

    static final int UNSET = 0, TRUE = 1, FALSE = 2;

    /** A broken program can make ModelTest print without end. */
    private static final int MOST_TOLD = 200;
    private static int wrong = 0;

    static void due(String what, long got, long want) {
        if (got != want) {
            fail(what + " answered " + got + ", due is " + want);
        }
    }

    static void due(String what, boolean got, boolean want) {
        due(what, got ? 1 : 0, want ? 1 : 0);
    }

    static void fail(String what) {
        wrong++;
        if (wrong <= MOST_TOLD) {
            System.out.println(what);
        }
    }

    /** The latest events of an instance, the oldest of them first, as pairs of event and activity. */
    static void dueEvents(String what, ScopeRunner x, int instance, int... pairs) {
        int count = pairs.length / 2;
        for (int i = 0; i < count; i++) {
            int want = 32 * pairs[2 * i] + pairs[2 * i + 1];
            due(what + ": event " + (i + 1) + " of the latest " + count, x.event(instance, count - 1 - i), want);
        }
    }

    /** All events of an instance (at most 32), in order. */
    static void dueAllEvents(String what, ScopeRunner x, int instance, int... pairs) {
        due(what + ": count of events", x.events(instance), pairs.length / 2);
        dueEvents(what, x, instance, pairs);
    }

    static void dueStatuses(String what, ScopeRunner x, int instance, int... statuses) {
        for (int a = 0; a < statuses.length; a++) {
            due(what + ": status of " + a, x.status(instance, a), statuses[a]);
        }
    }

    /** Root 0, its body the SEQUENCE 1, START 2 of operation 0 into variable 0. */
    static ScopeRunner process() {
        ScopeRunner x = new ScopeRunner();
        x.add(-1, 0, SCOPE, 0, 0);
        x.add(0, 0, SEQUENCE, 0, 0);
        x.add(1, 0, RECEIVE, 0, 0);
        return x;
    }

    /** That process with FLOW 3 of EMPTY 4 and an activity 5 of the kind, which has EMPTY 6 and 7. */
    static ScopeRunner flowWith(int kind, int p, int q) {
        ScopeRunner x = process();
        add(x, 3, 1, 0, FLOW, 0, 0);
        add(x, 4, 3, 0, EMPTY, 0, 0);
        add(x, 5, 3, 0, kind, p, q);
        add(x, 6, 5, 0, EMPTY, 0, 0);
        add(x, 7, 5, 0, EMPTY, 0, 0);
        return x;
    }

    static void add(ScopeRunner x, int number, int parent, int role, int kind, int p, int q) {
        due("add of " + number, x.add(parent, role, kind, p, q), number);
    }

    static void deployed(String what, ScopeRunner x) {
        due(what + ": deploy", x.deploy(), 0);
    }

    static void end(String name) {
        System.out.println(name + (wrong == 0 ? ": all answers are as due" : ": " + wrong + " answers are not as due"));
        if (wrong != 0) {
            System.exit(1);
        }
    }
}
