/** The numbers p and q of the kinds at work: variables 0 to 4, bounds, wrap-around, operations, and faults 1 to 102. */
public final class NumbersTest extends Case {
    /** A value, a bound, and 1 if value < bound. */
    private static final int[][] CONDITIONS = {
        {4, 5, 1}, {5, 5, 0}, {6, 5, 0}, {-1, 0, 1}, {0, 0, 0}, {1, 0, 0}, {LOW, LOW, 0}, {LOW, LOW + 1, 1}, {LOW + 1, LOW, 0},
        {HIGH, HIGH, 0}, {HIGH - 1, HIGH, 1}, {HIGH, HIGH - 1, 0}, {LOW, HIGH, 1}, {HIGH, LOW, 0}, {LOW, 0, 1}, {0, LOW, 0},
    };

    public static void main(String[] args) {
        additionsWrap();
        conditionsOfIf();
        conditionsOfWhile();
        conditionsOfLinks();
        copies();
        startIntoEachVariable();
        receivesOfEachOperation();
        answersIntoEachVariable();
        ownVariableInHandlers();
        faultsThatAreThrown();
        faultsThatAreAnswered();
        faultsThatAreCaught();
        compensateOfTheHighestScope();
        numbersThatMeanNothing();
        operationOfARethrowMeansNothing();
        end("NumbersTest");
    }

    /** Scope 3 with SEQUENCE 4, in which COPY 5 takes START's value into variable k. */
    private static ScopeRunner withValueIn(int k) {
        ScopeRunner x = process();
        add(x, 3, 1, 0, SCOPE, 0, 0);
        add(x, 4, 3, 0, SEQUENCE, 0, 0);
        add(x, 5, 4, 0, COPY, k, 0);
        return x;
    }

    private static int valueOf(ScopeRunner x, int k) {
        return k < 4 ? x.variable(0, k) : x.own(0, 3);
    }

    private static void additionsWrap() {
        int[][] rows = {{HIGH, 1, LOW}, {LOW, -1, HIGH}, {HIGH, HIGH, -2}, {LOW, LOW, 0}, {0, LOW, LOW}, {0, HIGH, HIGH},
            {-1, 1, 0}, {HIGH, LOW, -1}, {HIGH, 0, HIGH}, {LOW, 0, LOW}};
        for (int k = 0; k <= 4; k++) {
            for (int[] row : rows) {
                ScopeRunner x = withValueIn(k);
                add(x, 6, 4, 0, ADD, k, row[1]);
                deployed("add", x);
                x.message(0, 0, row[0]);
                due("add: run", x.run(0, 50), 7);
                due("add: variable " + k + ", " + row[0] + " + " + row[1], valueOf(x, k), row[2]);
                due("add: the root's own", x.own(0, 0), 0);
            }
        }
    }

    private static String name(String what, int k, int[] row) {
        return what + ": variable " + k + ", " + row[0] + " < " + row[1];
    }

    private static void conditionsOfIf() {
        for (int k = 0; k <= 4; k++) {
            for (int[] row : CONDITIONS) {
                ScopeRunner x = withValueIn(k);
                add(x, 6, 4, 0, IF, k, row[1]);
                add(x, 7, 6, 0, EMPTY, 0, 0);
                add(x, 8, 6, 0, EMPTY, 0, 0);
                deployed("if", x);
                x.message(0, 0, row[0]);
                due(name("if", k, row) + ": run", x.run(0, 50), 8);
                due(name("if", k, row), x.status(0, 7), row[2] == 1 ? IS_DONE : IS_SKIPPED);
                due(name("if", k, row) + ": second", x.status(0, 8), row[2] == 1 ? IS_SKIPPED : IS_DONE);
            }
        }
    }

    private static void conditionsOfWhile() {
        for (int k = 0; k <= 4; k++) {
            for (int[] row : CONDITIONS) {
                ScopeRunner x = withValueIn(k);
                add(x, 6, 4, 0, WHILE, k, row[1]);
                add(x, 7, 6, 0, INVOKE, 0, k);
                deployed("while", x);
                x.message(0, 0, row[0]);
                x.run(0, 50);
                due(name("while", k, row), x.status(0, 7), row[2] == 1 ? WAITING : IDLE);
                due(name("while", k, row) + ": state", x.state(0), 1 - row[2]);
                if (row[2] == 1) {
                    due("while: AGAIN", x.answer(0, 7, 0, row[1]), true);
                    due("while: it is looked at again", x.run(0, 50), 1);
                    due("while: completed", x.state(0), 1);
                }
            }
        }
    }

    private static void conditionsOfLinks() {
        for (int k = 0; k <= 4; k++) {
            for (int[] row : CONDITIONS) {
                ScopeRunner x = withValueIn(k);
                add(x, 6, 4, 0, FLOW, 0, 0);
                add(x, 7, 6, 0, EMPTY, 0, 0);
                add(x, 8, 6, 0, EMPTY, 0, 0);
                due("link", x.link(7, 8, k, row[1]), 0);
                deployed("link", x);
                x.message(0, 0, row[0]);
                due(name("link", k, row) + ": run", x.run(0, 50), 9);
                due(name("link", k, row), x.linkState(0, 0), row[2] == 1 ? TRUE : FALSE);
                due(name("link", k, row) + ": target", x.status(0, 8), row[2] == 1 ? IS_DONE : IS_SKIPPED);
            }
        }
    }

    /** Variables 0 to 4 hold 10 to 14; each is copied into each. */
    private static void copies() {
        for (int p = 0; p <= 4; p++) {
            for (int q = 0; q <= 4; q++) {
                ScopeRunner x = withValueIn(0);
                for (int k = 1; k <= 4; k++) {
                    add(x, 5 + k, 4, 0, ADD, k, 10 + k);
                }
                add(x, 10, 4, 0, COPY, p, q);
                deployed("copy", x);
                x.message(0, 0, 10);
                due("copy: run", x.run(0, 50), 11);
                for (int k = 0; k <= 4; k++) {
                    due("copy of " + q + " into " + p + ": variable " + k, valueOf(x, k), k == p ? 10 + q : 10 + k);
                }
            }
        }
    }

    private static void startIntoEachVariable() {
        for (int operation = 0; operation <= 7; operation++) {
            for (int k = 0; k <= 4; k++) {
                ScopeRunner x = new ScopeRunner();
                add(x, 0, -1, 0, SCOPE, 0, 0);
                add(x, 1, 0, 0, RECEIVE, operation, k);
                deployed("start", x);
                for (int other = -1; other <= 8; other++) {
                    if (other != operation) {
                        due("start: operation " + other + " for " + operation, x.message(other, 3, 9), -1);
                    }
                }
                due("start: operation " + operation, x.message(operation, 3, LOW + k), 0);
                due("start: run", x.run(0, 50), 2);
                for (int v = 0; v <= 3; v++) {
                    due("start into " + k + ": variable " + v, x.variable(0, v), v == k ? LOW + k : 0);
                }
                due("start into " + k + ": own", x.own(0, 0), k == 4 ? LOW + 4 : 0);
            }
        }
    }

    private static void receivesOfEachOperation() {
        for (int operation = 0; operation <= 7; operation++) {
            for (int k = 0; k <= 4; k++) {
                ScopeRunner x = withValueIn(0);
                add(x, 6, 4, 0, RECEIVE, operation, k);
                deployed("receive", x);
                x.message(0, 5, 50);
                due("receive: run", x.run(0, 50), 7);
                for (int other = -1; other <= 8; other++) {
                    if (other != operation) {
                        due("receive: operation " + other + " for " + operation, x.message(other, 5, 9), -1);
                    }
                }
                due("receive: operation " + operation, x.message(operation, 5, HIGH - k), 0);
                due("receive: state", x.state(0), 1);
                for (int v = 0; v <= 4; v++) {
                    due("receive into " + k + ": variable " + v, valueOf(x, v), v == k ? HIGH - k : v == 0 ? 50 : 0);
                }
            }
        }
    }

    private static void answersIntoEachVariable() {
        for (int k = 0; k <= 4; k++) {
            for (int value : new int[] {LOW, -1, 0, HIGH}) {
                ScopeRunner x = withValueIn(0);
                add(x, 6, 4, 0, INVOKE, 0, k);
                deployed("answer", x);
                x.message(0, 5, 50);
                due("answer: run", x.run(0, 50), 7);
                due("answer", x.answer(0, 6, 0, value), true);
                for (int v = 0; v <= 4; v++) {
                    due("answer into " + k + ": variable " + v, valueOf(x, v), v == k ? value : v == 0 ? 50 : 0);
                }
                due("answer: the root's own", x.own(0, 0), 0);
            }
        }
    }

    /** ADD 5 is the fault handler of scope 3, ADD 8 the undo handler of scope 6: each adds to that scope's own variable. */
    private static void ownVariableInHandlers() {
        ScopeRunner x = process();
        add(x, 3, 1, 0, SCOPE, 0, 0);
        add(x, 4, 3, 0, THROW, 1, 0);
        add(x, 5, 3, 1, ADD, 4, 30);
        add(x, 6, 1, 0, SCOPE, 0, 0);
        add(x, 7, 6, 0, ADD, 4, 60);
        add(x, 8, 6, 2, ADD, 4, 3);
        add(x, 9, 1, 0, THROW, 1, 0);
        deployed("own", x);
        x.message(0, 0, 5);
        due("own: run", x.run(0, 50), 12);
        due("own: fault handler", x.own(0, 3), 30);
        due("own: undo handler", x.own(0, 6), 63);
        due("own: root", x.own(0, 0), 0);
    }

    private static void faultsThatAreThrown() {
        for (int fault = 1; fault <= 99; fault++) {
            ScopeRunner x = process();
            add(x, 3, 1, 0, THROW, fault, 0);
            deployed("throw", x);
            x.message(0, 0, 0);
            due("throw: run", x.run(0, 50), 5);
            due("throw " + fault, x.state(0), 10 + fault);
        }
    }

    private static void faultsThatAreAnswered() {
        for (int fault = -2; fault <= 103; fault++) {
            ScopeRunner x = process();
            add(x, 3, 1, 0, INVOKE, 0, 1);
            deployed("answer with a fault", x);
            x.message(0, 0, 0);
            due("answer with a fault: run", x.run(0, 50), 4);
            boolean right = fault >= 0 && fault <= 99;
            due("answer with " + fault, x.answer(0, 3, fault, 6), right);
            due("answer with " + fault + ": status", x.status(0, 3), !right ? WAITING : fault == 0 ? IS_DONE : IS_FAULTED);
            due("answer with " + fault + ": value", x.variable(0, 1), fault == 0 ? 6 : 0);
            due("answer with " + fault + ": on", x.run(0, 50), right && fault > 0 ? 1 : 0);
            due("answer with " + fault + ": state", x.state(0), !right ? 0 : fault == 0 ? 1 : 10 + fault);
        }
    }

    /** Scope 3 catches the given fault with handler 4; what is below it raises another. */
    private static ScopeRunner raising(int caught, int fault, int handler) {
        ScopeRunner x = process();
        add(x, 3, 1, 0, SCOPE, caught, 0);
        add(x, 4, 3, 1, handler, 0, 0);
        switch (fault) {
            case 100 -> {
                add(x, 5, 3, 0, FLOW, 0, 0);
                add(x, 6, 5, 0, EMPTY, 0, 0);
                add(x, 7, 5, 0, EMPTY, 0, 0);
                due("raising: link", x.link(6, 7, 0, LOW), 0);
                due("raising: join", x.join(7, 2), true);
            }
            case 101 -> {
                add(x, 5, 3, 0, FLOW, 0, 0);
                add(x, 6, 5, 0, RECEIVE, 3, 0);
                add(x, 7, 5, 0, RECEIVE, 3, 0);
            }
            case 102 -> {
                add(x, 5, 3, 0, WHILE, 1, 17);
                add(x, 6, 5, 0, SCOPE, 0, 0);
                add(x, 7, 6, 0, ADD, 1, 1);
            }
            default -> add(x, 5, 3, 0, THROW, fault, 0);
        }
        deployed("raising", x);
        x.message(0, 0, 0);
        return x;
    }

    private static void faultsThatAreCaught() {
        for (int caught : new int[] {0, 1, 2, 98, 99, 100, 101, 102}) {
            for (int fault : new int[] {1, 99, 100, 101, 102}) {
                for (int handler : new int[] {EMPTY, RETHROW}) {
                    ScopeRunner x = raising(caught, fault, handler);
                    x.run(0, 50);
                    x.run(0, 50);
                    boolean ran = caught == 0 || caught == fault;
                    String what = "fault " + fault + " where " + caught + " is caught, handler " + handler;
                    due(what + ": handler", x.status(0, 4), !ran ? IDLE : handler == EMPTY ? IS_DONE : IS_FAULTED);
                    due(what + ": state", x.state(0), ran && handler == EMPTY ? 1 : 10 + fault);
                }
            }
        }
    }

    /** Scope 22 with EMPTY 23 is the highest that a process can have; COMPENSATE 4 undoes it, and not scope 8. */
    private static void compensateOfTheHighestScope() {
        ScopeRunner x = process();
        add(x, 3, 0, 1, SEQUENCE, 0, 0);
        add(x, 4, 3, 0, COMPENSATE, 22, 0);
        add(x, 5, 3, 0, INVOKE, 0, 0);
        add(x, 6, 1, 0, FLOW, 0, 0);
        add(x, 7, 6, 0, INVOKE, 0, 0);
        add(x, 8, 6, 0, SCOPE, 0, 0);
        add(x, 9, 8, 0, EMPTY, 0, 0);
        for (int a = 10; a <= 21; a++) {
            add(x, a, 6, 0, EMPTY, 0, 0);
        }
        add(x, 22, 6, 0, SCOPE, 0, 0);
        add(x, 23, 22, 0, EMPTY, 0, 0);
        deployed("highest scope", x);
        x.message(0, 0, 0);
        due("highest scope: run", x.run(0, 50), 21);
        due("highest scope: kept", x.kept(0, 0), 2);
        due("highest scope: fault", x.answer(0, 7, 9, 0), true);
        due("highest scope: to the handler's end", x.run(0, 50), 6);
        due("highest scope: it is undone", x.status(0, 22), IS_UNDONE);
        due("highest scope: the other is not", x.status(0, 8), IS_DONE);
        due("highest scope: kept", x.kept(0, 0), 1);
        due("highest scope: waits", x.status(0, 5), WAITING);
    }

    /** "Those not named here may be anything and mean nothing": the run is the same for all of them. */
    private static void numbersThatMeanNothing() {
        for (int any : new int[] {0, -1, 1, 5, 103, LOW, HIGH}) {
            ScopeRunner x = new ScopeRunner();
            add(x, 0, -1, 0, SCOPE, 0, any);
            add(x, 1, 0, 0, SEQUENCE, any, any);
            add(x, 2, 1, 0, RECEIVE, 0, 0);
            add(x, 3, 1, 0, SCOPE, 0, any);
            add(x, 4, 3, 0, SEQUENCE, any, any);
            add(x, 5, 4, 0, SCOPE, 0, any);
            add(x, 6, 5, 0, EMPTY, any, any);
            add(x, 7, 4, 0, FLOW, any, any);
            add(x, 8, 7, 0, EMPTY, any, any);
            add(x, 9, 7, 0, INVOKE, any, 1);
            add(x, 10, 4, 0, THROW, 5, any);
            add(x, 11, 3, 1, SEQUENCE, any, any);
            add(x, 12, 11, 0, COMPENSATE, 0, any);
            add(x, 13, 11, 0, RETHROW, any, any);
            due("mean nothing: link", x.link(8, 9, -1, any), 0);
            deployed("mean nothing", x);
            x.message(0, 0, 0);
            due("mean nothing: run", x.run(0, 50), 10);
            due("mean nothing: link", x.linkState(0, 0), TRUE);
            due("mean nothing: answer", x.answer(0, 9, 0, 7), true);
            due("mean nothing: run on", x.run(0, 50), 8);
            due("mean nothing: variable", x.variable(0, 1), 7);
            due("mean nothing: state", x.state(0), 15);
            dueEvents("mean nothing with " + any, x, 0, DONE, 9, DONE, 7, STARTED, 10, FAULTED, 10, TERMINATED, 4, CAUGHT, 3,
                STARTED, 11, STARTED, 12, UNDO, 5, UNDONE, 5, DONE, 12, STARTED, 13, FAULTED, 13, TERMINATED, 11, FAULTED, 3,
                TERMINATED, 1, FAULTED, 0);
        }
    }

    /** RETHROW 7 has the number of the operation for which RECEIVE 4 is WAITING. */
    private static void operationOfARethrowMeansNothing() {
        ScopeRunner x = process();
        add(x, 3, 1, 0, FLOW, 0, 0);
        add(x, 4, 3, 0, RECEIVE, 3, 4);
        add(x, 5, 3, 0, SCOPE, 0, 0);
        add(x, 6, 5, 0, THROW, 7, 0);
        add(x, 7, 5, 1, RETHROW, 3, 4);
        deployed("rethrow's numbers", x);
        x.message(0, 0, 0);
        due("rethrow's numbers: run", x.run(0, 50), 9);
        due("rethrow's numbers: state", x.state(0), 17);
    }
}
