/** Promises 6 to 13 and 16 to 18 on plain processes: messages, steps, answers, ends, and what can be asked. */
public final class InstanceTest extends Case {
    public static void main(String[] args) {
        atFirst();
        messagesFindInstances();
        atMost8Instances();
        runCounts();
        variables();
        ifChooses();
        ifWithoutChosen();
        whileLoops();
        answers();
        answersThatAreRefused();
        twoReceives();
        receivesOneAfterAnother();
        receiveAfterATerminatedOne();
        flowOfOne();
        terminates();
        eventsAreTold();
        askedOfEachKind();
        wrongNumbers();
        end("InstanceTest");
    }

    private static void atFirst() {
        ScopeRunner x = process();
        due("not deployed: message", x.message(0, 1, 5), -1);
        deployed("at first", x);
        due("at first: state before", x.state(0), -1);
        due("at first: another operation", x.message(1, 1, 5), -1);
        due("at first: message", x.message(0, 1, 5), 0);
        dueStatuses("at first", x, 0, OPEN, IDLE, IDLE, -1);
        due("at first: state", x.state(0), 0);
        due("at first: variable", x.variable(0, 0), 0);
        due("at first: events", x.events(0), 0);
        due("at first: event", x.event(0, 0), -1);
        due("at first: next", x.next(0), 0);
        due("at first: kept", x.kept(0, 0), 0);
        due("at first: own", x.own(0, 0), 0);
        due("at first: first step", x.run(0, 1), 1);
        dueStatuses("one step", x, 0, RUNNING, OPEN, IDLE);
        due("one step: next", x.next(0), 1);
        due("at first: second step", x.run(0, 1), 1);
        dueStatuses("two steps", x, 0, RUNNING, RUNNING, OPEN);
        due("two steps: the value is not taken", x.variable(0, 0), 0);
        due("at first: third step", x.run(0, 1), 1);
        dueStatuses("three steps", x, 0, IS_DONE, IS_DONE, IS_DONE);
        due("three steps: the value is taken", x.variable(0, 0), 5);
        due("three steps: state", x.state(0), 1);
        due("three steps: next", x.next(0), -1);
        dueAllEvents("three steps", x, 0, STARTED, 0, STARTED, 1, STARTED, 2, DONE, 2, DONE, 1, DONE, 0);
    }

    /** After START a RECEIVE of operation 1 and one of START's own. */
    private static ScopeRunner withReceives() {
        ScopeRunner x = process();
        add(x, 3, 1, 0, RECEIVE, 1, 1);
        add(x, 4, 1, 0, RECEIVE, 0, 2);
        deployed("receives", x);
        return x;
    }

    private static void messagesFindInstances() {
        ScopeRunner x = withReceives();
        due("messages: not START's", x.message(1, 7, 1), -1);
        due("messages: first", x.message(0, 7, 10), 0);
        due("messages: second key", x.message(0, -7, 20), 1);
        due("messages: running, nothing waits", x.message(0, 7, 11), -1);
        due("messages: running, nothing waits for 1", x.message(1, 7, 12), -1);
        due("messages: run 0", x.run(0, 50), 4);
        due("messages: waits", x.status(0, 3), WAITING);
        due("messages: START's operation is not waited for", x.message(0, 7, 13), -1);
        due("messages: another key", x.message(1, 8, 14), -1);
        due("messages: the other instance does not wait", x.message(1, -7, 14), -1);
        due("messages: waited for", x.message(1, 7, LOW), 0);
        due("messages: value", x.variable(0, 1), LOW);
        due("messages: received", x.status(0, 3), IS_DONE);
        due("messages: the next is open", x.status(0, 4), OPEN);
        due("messages: once only", x.message(1, 7, 16), -1);
        due("messages: run 0 on", x.run(0, 50), 1);
        due("messages: START's operation is waited for", x.message(0, 7, 17), 0);
        due("messages: value of the second", x.variable(0, 2), 17);
        due("messages: START's value stays", x.variable(0, 0), 10);
        due("messages: completed by the message", x.state(0), 1);
        dueEvents("messages", x, 0, STARTED, 4, DONE, 4, DONE, 1, DONE, 0);
        due("messages: the key is free", x.message(0, 7, 18), 2);
        due("messages: none for operation 8", x.message(8, 9, 0), -1);
        due("messages: none for operation -1", x.message(-1, 9, 0), -1);
        due("messages: run 1", x.run(1, 50), 4);
        due("messages: instances are apart", x.variable(1, 0), 20);
    }

    private static void atMost8Instances() {
        ScopeRunner x = process();
        deployed("eight", x);
        for (int i = 0; i < 8; i++) {
            due("eight: message " + i, x.message(0, i, i), i);
        }
        due("eight: the ninth", x.message(0, 8, 8), -1);
        due("eight: end one", x.run(0, 50), 3);
        due("eight: ended ones count", x.message(0, 0, 8), -1);
        for (int i = 1; i < 8; i++) {
            due("eight: run " + i, x.run(i, 50), 3);
            due("eight: variable of " + i, x.variable(i, 0), i);
        }
        due("eight: state of the ninth", x.state(8), -1);
    }

    private static void runCounts() {
        ScopeRunner x = process();
        add(x, 3, 1, 0, WHILE, 1, HIGH);
        add(x, 4, 3, 0, EMPTY, 0, 0);
        deployed("run", x);
        due("run: no instance", x.run(0, 1), 0);
        due("run: message", x.message(0, 0, 0), 0);
        due("run: n 0", x.run(0, 0), 0);
        due("run: n -1", x.run(0, -1), 0);
        due("run: n 51", x.run(0, 51), 0);
        due("run: n highest", x.run(0, HIGH), 0);
        due("run: nothing happened", x.events(0), 0);
        due("run: instance -1", x.run(-1, 1), 0);
        due("run: instance 1", x.run(1, 1), 0);
        due("run: n 50", x.run(0, 50), 50);
        due("run: 50 more", x.run(0, 50), 50);
        due("run: n 1", x.run(0, 1), 1);
        due("run: terminate", x.terminate(0), true);
        due("run: ended", x.run(0, 50), 0);
    }

    private static void variables() {
        ScopeRunner x = process();
        add(x, 3, 1, 0, ADD, 0, HIGH);
        add(x, 4, 1, 0, COPY, 1, 0);
        add(x, 5, 1, 0, ADD, 4, 6);
        add(x, 6, 1, 0, SCOPE, 0, 0);
        add(x, 7, 6, 0, SEQUENCE, 0, 0);
        add(x, 8, 7, 0, ADD, 4, 30);
        add(x, 9, 7, 0, COPY, 2, 4);
        add(x, 10, 1, 0, COPY, 3, 4);
        deployed("variables", x);
        due("variables: message", x.message(0, 0, 2), 0);
        due("variables: run", x.run(0, 50), 11);
        due("variables: it wraps", x.variable(0, 0), LOW + 1);
        due("variables: copied", x.variable(0, 1), LOW + 1);
        due("variables: the inner scope's own", x.variable(0, 2), 30);
        due("variables: the root's own", x.variable(0, 3), 6);
        due("own: root", x.own(0, 0), 6);
        due("own: scope", x.own(0, 6), 30);
        due("own: no scope", x.own(0, 7), 0);
        due("own: no activity", x.own(0, 11), 0);
        due("own: activity -1", x.own(0, -1), 0);
        due("own: no instance", x.own(1, 0), 0);
        due("variable 4", x.variable(0, 4), 0);
        due("variable -1", x.variable(0, -1), 0);
        due("variable: no instance", x.variable(1, 0), 0);
        due("variable: instance -1", x.variable(-1, 0), 0);
    }

    private static void ifChooses() {
        ScopeRunner x = process();
        add(x, 3, 1, 0, IF, 0, 5);
        add(x, 4, 3, 0, ADD, 1, 1);
        add(x, 5, 3, 0, ADD, 1, 2);
        deployed("if", x);
        due("if: 4 < 5", x.message(0, 0, 4), 0);
        due("if: 5 < 5", x.message(0, 1, 5), 1);
        due("if: run 0 to the if", x.run(0, 4), 4);
        dueStatuses("if: first chosen", x, 0, RUNNING, RUNNING, IS_DONE, RUNNING, OPEN, IS_SKIPPED);
        dueEvents("if: first chosen", x, 0, STARTED, 3, SKIPPED, 5);
        due("if: run 0", x.run(0, 50), 1);
        due("if: first", x.variable(0, 1), 1);
        dueEvents("if: first done", x, 0, STARTED, 4, DONE, 4, DONE, 3, DONE, 1, DONE, 0);
        due("if: run 1", x.run(1, 50), 5);
        due("if: second", x.variable(1, 1), 2);
        due("if: first is skipped", x.status(1, 4), IS_SKIPPED);
    }

    private static void ifWithoutChosen() {
        ScopeRunner x = process();
        add(x, 3, 1, 0, IF, 0, 5);
        add(x, 4, 3, 0, ADD, 1, 1);
        deployed("if alone", x);
        x.message(0, 0, 4);
        x.message(0, 1, 5);
        due("if alone: holds", x.run(0, 50), 5);
        due("if alone: done", x.variable(0, 1), 1);
        due("if alone: does not hold", x.run(1, 50), 4);
        due("if alone: not done", x.variable(1, 1), 0);
        dueEvents("if alone", x, 1, STARTED, 3, SKIPPED, 4, DONE, 3, DONE, 1, DONE, 0);
    }

    private static void whileLoops() {
        ScopeRunner x = process();
        add(x, 3, 1, 0, WHILE, 1, 2);
        add(x, 4, 3, 0, SEQUENCE, 0, 0);
        add(x, 5, 4, 0, ADD, 1, 1);
        add(x, 6, 4, 0, EMPTY, 0, 0);
        deployed("while", x);
        x.message(0, 0, 0);
        due("while: to its second round", x.run(0, 7), 7);
        dueStatuses("while: again", x, 0, RUNNING, RUNNING, IS_DONE, AGAIN, IS_DONE, IS_DONE, IS_DONE);
        due("while: next", x.next(0), 3);
        int events = x.events(0);
        due("while: the second round", x.run(0, 1), 1);
        due("while: no event", x.events(0), events);
        dueStatuses("while: renewed", x, 0, RUNNING, RUNNING, IS_DONE, RUNNING, OPEN, IDLE, IDLE);
        due("while: to the end", x.run(0, 50), 4);
        due("while: rounds", x.variable(0, 1), 2);
        dueEvents("while: end", x, 0, DONE, 6, DONE, 4, DONE, 3, DONE, 1, DONE, 0);
        due("while: state", x.state(0), 1);
        ScopeRunner y = process();
        add(y, 3, 1, 0, WHILE, 0, 0);
        add(y, 4, 3, 0, EMPTY, 0, 0);
        deployed("while not", y);
        y.message(0, 0, 0);
        due("while not: run", y.run(0, 50), 4);
        dueStatuses("while not", y, 0, IS_DONE, IS_DONE, IS_DONE, IS_DONE, IDLE);
        dueEvents("while not", y, 0, STARTED, 3, DONE, 3, DONE, 1, DONE, 0);
    }

    private static ScopeRunner withInvoke() {
        ScopeRunner x = process();
        add(x, 3, 1, 0, INVOKE, -5, 4);
        add(x, 4, 1, 0, EMPTY, 0, 0);
        deployed("invoke", x);
        x.message(0, 0, 0);
        return x;
    }

    private static void answers() {
        ScopeRunner x = withInvoke();
        due("answer: not yet", x.answer(0, 3, 0, 9), false);
        due("answer: run", x.run(0, 50), 4);
        due("answer: waits", x.status(0, 3), WAITING);
        due("answer: nobody can step", x.next(0), -1);
        due("answer: still running", x.state(0), 0);
        due("answer: 0", x.answer(0, 3, 0, 9), true);
        due("answer: value", x.own(0, 0), 9);
        dueStatuses("answer", x, 0, RUNNING, RUNNING, IS_DONE, IS_DONE, OPEN);
        due("answer: twice", x.answer(0, 3, 0, 9), false);
        due("answer: to the end", x.run(0, 50), 1);
        due("answer: state", x.state(0), 1);
        for (int fault = 1; fault <= 99; fault += 49) {
            ScopeRunner y = withInvoke();
            y.run(0, 50);
            due("answer: fault " + fault, y.answer(0, 3, fault, 9), true);
            due("answer: no value", y.own(0, 0), 0);
            dueStatuses("answer: fault " + fault, y, 0, FAILING, IS_TERMINATED, IS_DONE, IS_FAULTED, IDLE);
            due("answer: still running", y.state(0), 0);
            due("answer: next", y.next(0), 0);
            due("answer: run on", y.run(0, 50), 1);
            due("answer: faulted with " + fault, y.state(0), 10 + fault);
            dueEvents("answer: faulted", y, 0, FAULTED, 3, TERMINATED, 1, FAULTED, 0);
        }
    }

    private static void answersThatAreRefused() {
        ScopeRunner x = withInvoke();
        x.run(0, 50);
        int events = x.events(0);
        due("answer: fault 100", x.answer(0, 3, 100, 0), false);
        due("answer: fault -1", x.answer(0, 3, -1, 0), false);
        due("answer: no invoke", x.answer(0, 4, 0, 0), false);
        due("answer: the root", x.answer(0, 0, 0, 0), false);
        due("answer: no activity", x.answer(0, 5, 0, 0), false);
        due("answer: activity -1", x.answer(0, -1, 0, 0), false);
        due("answer: no instance", x.answer(1, 3, 0, 0), false);
        due("answer: instance -1", x.answer(-1, 3, 0, 0), false);
        due("answer: nothing happened", x.events(0), events);
        due("answer: it waits on", x.status(0, 3), WAITING);
        ScopeRunner y = withReceives();
        y.message(0, 0, 0);
        y.run(0, 50);
        due("answer: a waiting receive", y.answer(0, 3, 0, 0), false);
        due("answer: it waits", y.status(0, 3), WAITING);
    }

    private static void twoReceives() {
        ScopeRunner x = process();
        add(x, 3, 1, 0, FLOW, 0, 0);
        add(x, 4, 3, 0, RECEIVE, 1, 1);
        add(x, 5, 3, 0, RECEIVE, 2, 1);
        add(x, 6, 3, 0, RECEIVE, 1, 2);
        deployed("two receives", x);
        x.message(0, 0, 0);
        due("two receives: up to the second", x.run(0, 6), 6);
        due("two receives: another operation waits", x.status(0, 5), WAITING);
        due("two receives: the second", x.run(0, 1), 1);
        dueEvents("two receives", x, 0, STARTED, 6, FAULTED, 6, TERMINATED, 1, TERMINATED, 3, TERMINATED, 4, TERMINATED, 5);
        due("two receives: the root fails", x.run(0, 50), 1);
        due("two receives: state", x.state(0), 111);
    }

    /** RECEIVE 3 and 4 of the same operation: when 4 opens, 3 is DONE. */
    private static void receivesOneAfterAnother() {
        ScopeRunner x = process();
        add(x, 3, 1, 0, RECEIVE, 1, 1);
        add(x, 4, 1, 0, RECEIVE, 1, 2);
        deployed("one after another", x);
        x.message(0, 0, 0);
        due("one after another: run", x.run(0, 50), 4);
        due("one after another: first", x.message(1, 0, 11), 0);
        due("one after another: run on", x.run(0, 50), 1);
        due("one after another: waits", x.status(0, 4), WAITING);
        due("one after another: second", x.message(1, 0, 12), 0);
        due("one after another: value of the first", x.variable(0, 1), 11);
        due("one after another: value of the second", x.variable(0, 2), 12);
        due("one after another: state", x.state(0), 1);
    }

    /** RECEIVE 4 was WAITING when INVOKE 5 faulted; the root's handler RECEIVE 6 waits for the same operation. */
    private static void receiveAfterATerminatedOne() {
        ScopeRunner x = process();
        add(x, 3, 1, 0, FLOW, 0, 0);
        add(x, 4, 3, 0, RECEIVE, 1, 1);
        add(x, 5, 3, 0, INVOKE, 0, 1);
        add(x, 6, 0, 1, RECEIVE, 1, 2);
        deployed("after a terminated one", x);
        x.message(0, 0, 0);
        due("after a terminated one: run", x.run(0, 50), 6);
        due("after a terminated one: fault", x.answer(0, 5, 1, 0), true);
        due("after a terminated one: not yet", x.message(1, 0, 10), -1);
        due("after a terminated one: run on", x.run(0, 50), 1);
        due("after a terminated one: 4", x.status(0, 4), IS_TERMINATED);
        due("after a terminated one: 6", x.status(0, 6), WAITING);
        due("after a terminated one: message", x.message(1, 0, 11), 0);
        due("after a terminated one: value", x.variable(0, 2), 11);
        due("after a terminated one: not for 4", x.variable(0, 1), 0);
        due("after a terminated one: state", x.state(0), 1);
    }

    private static void flowOfOne() {
        ScopeRunner x = process();
        add(x, 3, 1, 0, FLOW, 0, 0);
        add(x, 4, 3, 0, EMPTY, 0, 0);
        add(x, 5, 1, 0, EMPTY, 0, 0);
        deployed("flow of one", x);
        x.message(0, 0, 0);
        due("flow of one: run", x.run(0, 50), 6);
        dueEvents("flow of one", x, 0, STARTED, 3, STARTED, 4, DONE, 4, DONE, 3, STARTED, 5, DONE, 5, DONE, 1, DONE, 0);
    }

    private static void terminates() {
        ScopeRunner x = withInvoke();
        due("terminate: instance 1", x.terminate(1), false);
        due("terminate: instance -1", x.terminate(-1), false);
        x.run(0, 50);
        due("terminate", x.terminate(0), true);
        due("terminate: state", x.state(0), 2);
        dueStatuses("terminate", x, 0, IS_TERMINATED, IS_TERMINATED, IS_DONE, IS_TERMINATED, IDLE);
        dueEvents("terminate", x, 0, STARTED, 3, TERMINATED, 0, TERMINATED, 1, TERMINATED, 3);
        due("terminate: twice", x.terminate(0), false);
        due("terminate: next", x.next(0), -1);
        due("terminate: run", x.run(0, 1), 0);
        due("terminate: answer", x.answer(0, 3, 0, 0), false);
        due("terminate: the key is free", x.message(0, 0, 0), 1);
        due("terminate: one that has not begun", x.terminate(1), true);
        dueAllEvents("terminate: not begun", x, 1, TERMINATED, 0);
        ScopeRunner y = process();
        deployed("terminate", y);
        y.message(0, 0, 0);
        y.run(0, 50);
        due("terminate: completed", y.terminate(0), false);
        due("terminate: completed stays", y.state(0), 1);
    }

    private static void eventsAreTold() {
        ScopeRunner x = process();
        add(x, 3, 1, 0, WHILE, 1, 16);
        add(x, 4, 3, 0, ADD, 1, 1);
        deployed("events", x);
        x.message(0, 0, 0);
        x.run(0, 50);
        due("events: count", x.events(0), 40);
        due("event 0", x.event(0, 0), 32 * DONE);
        due("event 3", x.event(0, 3), 32 * DONE + 4);
        due("event 30", x.event(0, 30), 32 * STARTED + 4);
        due("event 31", x.event(0, 31), 32 * DONE + 4);
        due("event 32", x.event(0, 32), -1);
        due("event 40", x.event(0, 40), -1);
        due("event -1", x.event(0, -1), -1);
        due("event highest", x.event(0, HIGH), -1);
        due("event lowest", x.event(0, LOW), -1);
        x.message(0, 0, 0);
        x.run(1, 2);
        due("few events: 1", x.event(1, 1), 32 * STARTED);
        due("few events: 2", x.event(1, 2), -1);
    }

    /** Own variables and lists are those of a SCOPE; of every other kind there is no such scope. */
    private static void askedOfEachKind() {
        ScopeRunner x = new ScopeRunner();
        add(x, 0, -1, 0, SCOPE, 0, 0);
        add(x, 1, 0, 0, SEQUENCE, 0, 0);
        add(x, 2, 1, 0, RECEIVE, 0, 4);
        add(x, 3, 0, 1, SEQUENCE, 0, 0);
        add(x, 4, 3, 0, RETHROW, 0, 0);
        add(x, 5, 3, 0, COMPENSATE, 0, 0);
        int[] parents = {FLOW, IF, WHILE, SCOPE};
        for (int i = 0; i < parents.length; i++) {
            add(x, 6 + 2 * i, 1, 0, parents[i], 4, 1);
            add(x, 7 + 2 * i, 6 + 2 * i, 0, i == 3 ? ADD : EMPTY, 4, 9);
        }
        int[] leaves = {ADD, COPY, INVOKE, THROW};
        for (int i = 0; i < leaves.length; i++) {
            add(x, 14 + i, 1, 0, leaves[i], 1, 1);
        }
        deployed("each kind", x);
        x.message(0, 0, 8);
        x.run(0, 50);
        for (int a = 0; a < 18; a++) {
            due("each kind: own of " + a, x.own(0, a), a == 0 ? 8 : a == 12 ? 9 : 0);
            due("each kind: kept of " + a, x.kept(0, a), a == 0 ? 1 : a == 12 ? 0 : -1);
        }
    }

    private static void wrongNumbers() {
        ScopeRunner x = withInvoke();
        for (int instance : new int[] {-1, 1, 8, LOW, HIGH}) {
            String what = "instance " + instance + ": ";
            due(what + "state", x.state(instance), -1);
            due(what + "status", x.status(instance, 0), -1);
            due(what + "variable", x.variable(instance, 0), 0);
            due(what + "own", x.own(instance, 0), 0);
            due(what + "linkState", x.linkState(instance, 0), -1);
            due(what + "kept", x.kept(instance, 0), -1);
            due(what + "events", x.events(instance), -1);
            due(what + "event", x.event(instance, 0), -1);
            due(what + "next", x.next(instance), -1);
        }
        for (int activity : new int[] {-1, 5, 24, LOW, HIGH}) {
            due("status of " + activity, x.status(0, activity), -1);
            due("kept of " + activity, x.kept(0, activity), -1);
            due("own of " + activity, x.own(0, activity), 0);
        }
        due("kept of no scope", x.kept(0, 1), -1);
        due("linkState without links", x.linkState(0, 0), -1);
        due("linkState -1", x.linkState(0, -1), -1);
        due("variable lowest", x.variable(0, LOW), 0);
    }
}
