/** Promises 1 to 4: a new object, add, join, link. */
public final class PlanTest extends Case {
    /** Kind, p and q, of which p or q is the first that is not allowed on its side, or far from it. */
    static final int[][] WRONG_NUMBERS = {
        {ADD, -1, 0}, {ADD, 5, 0}, {ADD, LOW, 0}, {ADD, HIGH, 0},
        {COPY, -1, 0}, {COPY, 5, 0}, {COPY, 0, -1}, {COPY, 0, 5}, {COPY, LOW, 0}, {COPY, 0, HIGH},
        {THROW, 0, 0}, {THROW, 100, 0}, {THROW, -1, 0}, {THROW, LOW, 0}, {THROW, HIGH, 0},
        {RECEIVE, -1, 0}, {RECEIVE, 8, 0}, {RECEIVE, 0, -1}, {RECEIVE, 0, 5}, {RECEIVE, LOW, 0}, {RECEIVE, 0, HIGH},
        {INVOKE, 0, -1}, {INVOKE, 0, 5}, {INVOKE, 0, LOW}, {INVOKE, 0, HIGH},
        {COMPENSATE, -1, 0}, {COMPENSATE, 24, 0}, {COMPENSATE, LOW, 0}, {COMPENSATE, HIGH, 0},
        {IF, -1, 0}, {IF, 5, 0}, {IF, LOW, 0}, {IF, HIGH, 0},
        {WHILE, -1, 0}, {WHILE, 5, 0}, {WHILE, LOW, 0}, {WHILE, HIGH, 0},
        {SCOPE, -1, 0}, {SCOPE, 103, 0}, {SCOPE, LOW, 0}, {SCOPE, HIGH, 0},
    };

    public static void main(String[] args) {
        newObject();
        firstActivity();
        numbersOfKinds();
        parentsAndRoles();
        atMost24();
        joins();
        links();
        atMost16Links();
        nothingAfterDeploy();
        end("PlanTest");
    }

    private static void newObject() {
        ScopeRunner x = new ScopeRunner();
        due("new: message", x.message(0, 0, 0), -1);
        due("new: run", x.run(0, 1), 0);
        due("new: answer", x.answer(0, 0, 0, 0), false);
        due("new: terminate", x.terminate(0), false);
        due("new: state", x.state(0), -1);
        due("new: status", x.status(0, 0), -1);
        due("new: variable", x.variable(0, 0), 0);
        due("new: own", x.own(0, 0), 0);
        due("new: linkState", x.linkState(0, 0), -1);
        due("new: kept", x.kept(0, 0), -1);
        due("new: events", x.events(0), -1);
        due("new: event", x.event(0, 0), -1);
        due("new: next", x.next(0), -1);
        due("new: join", x.join(0, 0), false);
        due("new: link", x.link(0, 0, -1, 0), -1);
        due("new: deploy", x.deploy(), 1);
        due("new: deploy is not done", x.deploy(), 1);
    }

    private static void firstActivity() {
        ScopeRunner x = new ScopeRunner();
        due("first: parent 0", x.add(0, 0, SCOPE, 0, 0), -1);
        due("first: parent -2", x.add(-2, 0, SCOPE, 0, 0), -1);
        due("first: role 1", x.add(-1, 1, SCOPE, 0, 0), -1);
        due("first: role 2", x.add(-1, 2, SCOPE, 0, 0), -1);
        for (int kind = -1; kind <= 13; kind++) {
            if (kind != SCOPE) {
                due("first: kind " + kind, x.add(-1, 0, kind, 1, 1), -1);
            }
        }
        due("first: p 103", x.add(-1, 0, SCOPE, 103, 0), -1);
        due("first: p -1", x.add(-1, 0, SCOPE, -1, 0), -1);
        due("first", x.add(-1, 0, SCOPE, 102, HIGH), 0);
        due("second with parent -1", x.add(-1, 0, SCOPE, 0, 0), -1);
    }

    private static void numbersOfKinds() {
        for (int[] numbers : WRONG_NUMBERS) {
            refused(numbers[0], numbers[1], numbers[2]);
        }
        refused(-1, 0, 0);
        refused(13, 0, 0);
        refused(LOW, 0, 0);
        refused(HIGH, 0, 0);

        taken(EMPTY, LOW, HIGH);
        taken(ADD, 0, LOW);
        taken(ADD, 4, HIGH);
        taken(COPY, 4, 4);
        taken(COPY, 0, 0);
        taken(THROW, 1, LOW);
        taken(THROW, 99, HIGH);
        taken(RETHROW, LOW, HIGH);
        taken(RECEIVE, 0, 4);
        taken(RECEIVE, 7, 0);
        taken(INVOKE, LOW, 4);
        taken(INVOKE, HIGH, 0);
        taken(COMPENSATE, 0, LOW);
        taken(COMPENSATE, 23, HIGH);
        taken(SEQUENCE, LOW, HIGH);
        taken(FLOW, LOW, HIGH);
        taken(IF, 4, LOW);
        taken(WHILE, 0, HIGH);
        taken(SCOPE, 0, LOW);
        taken(SCOPE, 102, HIGH);
    }

    private static void refused(int kind, int p, int q) {
        ScopeRunner x = process();
        due("add of kind " + kind + " with " + p + ", " + q, x.add(1, 0, kind, p, q), -1);
        due("add after a refused one", x.add(1, 0, EMPTY, 0, 0), 3);
    }

    private static void taken(int kind, int p, int q) {
        ScopeRunner x = process();
        due("add of kind " + kind + " with " + p + ", " + q, x.add(1, 0, kind, p, q), 3);
    }

    private static void parentsAndRoles() {
        for (int kind = EMPTY; kind <= SCOPE; kind++) {
            ScopeRunner x = process();
            add(x, 3, 1, 0, kind, 1, 1);
            due("a child of kind " + kind, x.add(3, 0, EMPTY, 0, 0), kind >= SEQUENCE ? 4 : -1);
            due("a fault handler of kind " + kind, x.add(3, 1, EMPTY, 0, 0), kind == SCOPE ? 5 : -1);
            due("an undo handler of kind " + kind, x.add(3, 2, EMPTY, 0, 0), kind == SCOPE ? 6 : -1);
            due("a second fault handler", x.add(3, 1, EMPTY, 0, 0), -1);
            due("a second undo handler", x.add(3, 2, EMPTY, 0, 0), -1);
        }
        ScopeRunner x = process();
        due("parent is the next number", x.add(3, 0, EMPTY, 0, 0), -1);
        due("parent -1", x.add(-1, 0, EMPTY, 0, 0), -1);
        due("parent lowest", x.add(LOW, 0, EMPTY, 0, 0), -1);
        due("parent highest", x.add(HIGH, 0, EMPTY, 0, 0), -1);
        due("role 3", x.add(0, 3, EMPTY, 0, 0), -1);
        due("role -1", x.add(0, -1, EMPTY, 0, 0), -1);
        due("an undo handler of the root", x.add(0, 2, EMPTY, 0, 0), 3);
        due("a fault handler of the root", x.add(0, 1, EMPTY, 0, 0), 4);
        due("more children than the rules allow", x.add(0, 0, EMPTY, 0, 0), 5);
    }

    private static void atMost24() {
        ScopeRunner x = process();
        for (int a = 3; a < 24; a++) {
            add(x, a, 1, 0, EMPTY, 0, 0);
        }
        due("the 25th", x.add(1, 0, EMPTY, 0, 0), -1);
        due("the 25th as a handler", x.add(0, 1, EMPTY, 0, 0), -1);
        deployed("24 activities", x);
        due("24 activities: message", x.message(0, 1, 1), 0);
        due("24 activities: run", x.run(0, 50), 24);
        due("24 activities: state", x.state(0), 1);
        due("24 activities: status of 23", x.status(0, 23), IS_DONE);
        due("24 activities: status of 24", x.status(0, 24), -1);
    }

    private static void joins() {
        ScopeRunner x = process();
        for (int mode = 0; mode <= 3; mode++) {
            due("join mode " + mode, x.join(2, mode), true);
        }
        due("join of the root", x.join(0, 3), true);
        due("join mode 4", x.join(2, 4), false);
        due("join mode -1", x.join(2, -1), false);
        due("join of no activity", x.join(3, 0), false);
        due("join of activity -1", x.join(-1, 0), false);
        due("join of the highest", x.join(HIGH, 0), false);
    }

    private static void links() {
        ScopeRunner x = process();
        due("link: source 3", x.link(3, 2, -1, 0), -1);
        due("link: source -1", x.link(-1, 2, -1, 0), -1);
        due("link: target 3", x.link(2, 3, -1, 0), -1);
        due("link: target -1", x.link(2, -1, -1, 0), -1);
        due("link: variable -2", x.link(1, 2, -2, 0), -1);
        due("link: variable 5", x.link(1, 2, 5, 0), -1);
        due("link", x.link(1, 2, 4, HIGH), 0);
        due("link: it is there", x.link(1, 2, -1, 0), -1);
        due("link back", x.link(2, 1, 0, LOW), 1);
        due("link to itself", x.link(1, 1, -1, 0), 2);
        due("links are looked at in deploy", x.deploy(), 5);
    }

    private static void atMost16Links() {
        ScopeRunner x = process();
        for (int i = 0; i < 9; i++) {
            due("link " + i, x.link(i / 3, i % 3, -1, 0), i);
        }
        add(x, 3, 1, 0, EMPTY, 0, 0);
        add(x, 4, 1, 0, EMPTY, 0, 0);
        for (int i = 0; i < 7; i++) {
            due("link " + (9 + i), x.link(3 + i / 5, i % 5, -1, 0), 9 + i);
        }
        due("the 17th link", x.link(4, 4, -1, 0), -1);
    }

    private static void nothingAfterDeploy() {
        ScopeRunner x = process();
        deployed("plain", x);
        due("add after deploy", x.add(1, 0, EMPTY, 0, 0), -1);
        due("join after deploy", x.join(1, 1), false);
        due("link after deploy", x.link(1, 2, -1, 0), -1);
        due("deploy after deploy", x.deploy(), -1);
        due("message after deploy", x.message(0, 1, 5), 0);
        due("run after deploy", x.run(0, 50), 3);
        due("state after deploy", x.state(0), 1);
        due("deploy once more", x.deploy(), -1);
    }
}
