/** Scopes: faults and who catches them, entries (promise 15), undoing, and undoing that faults (promises 7, 8, 13). */
public final class ScopeTest extends Case {
    public static void main(String[] args) {
        caughtByNumber();
        notCaught();
        undoHandlerCatchesNothing();
        bodyIsTheFirstPlainChild();
        faultHandlerCompletesWithoutEntry();
        rethrow();
        faultInAFaultHandler();
        handlersAreRenewedByAWhile();
        concurrentPartsEnd();
        entriesAreKept();
        entriesHoldEntries();
        failingUndoesLatestFirst();
        compensateOneScope();
        compensateAllOfOneScope();
        compensateWithNothingToUndo();
        handlerWithoutCompensate();
        undoSeesItsOwnVariable();
        undoneScopeWithoutHandlerUndoesItsList();
        undoHandlerIsRenewed();
        undoHandlerWaits();
        failedUndoOfAFailingScope();
        failedUndoThroughAnUndoingScope();
        failedUndoOfACompensate();
        failedUndoThroughAnUndoingScopeOfACompensate();
        failedCompensateIsCaughtFurtherOut();
        terminatedScopesGiveTheirEntries();
        terminatedWhileUndoing();
        terminatedWhileBusyAndRunAgain();
        terminateWhileUndoing();
        atMost16Entries();
        entryFaultIsCaught();
        terminateLeavesLists();
        rootsUndoHandlerNeverRuns();
        end("ScopeTest");
    }

    /** Scope 3 catches the given fault; its body is SEQUENCE 4 of THROW 5 and EMPTY 6, its handler ADD 7; ADD 8 is behind. */
    private static ScopeRunner throwing(int caught, int thrown) {
        ScopeRunner x = process();
        add(x, 3, 1, 0, SCOPE, caught, 0);
        add(x, 4, 3, 0, SEQUENCE, 0, 0);
        add(x, 5, 4, 0, THROW, thrown, 0);
        add(x, 6, 4, 0, EMPTY, 0, 0);
        add(x, 7, 3, 1, ADD, 1, 1);
        add(x, 8, 1, 0, ADD, 2, 1);
        deployed("throwing", x);
        x.message(0, 0, 0);
        return x;
    }

    private static void caughtByNumber() {
        for (int caught : new int[] {0, 1, 99}) {
            int thrown = caught == 0 ? 42 : caught;
            ScopeRunner x = throwing(caught, thrown);
            String what = "caught by " + caught;
            due(what + ": to the throw", x.run(0, 6), 6);
            dueStatuses(what, x, 0, RUNNING, RUNNING, IS_DONE, HANDLING, IS_TERMINATED, IS_FAULTED, IDLE, OPEN, IDLE);
            dueEvents(what, x, 0, STARTED, 5, FAULTED, 5, TERMINATED, 4, CAUGHT, 3);
            due(what + ": next", x.next(0), 7);
            due(what + ": to the end", x.run(0, 50), 2);
            dueEvents(what, x, 0, CAUGHT, 3, STARTED, 7, DONE, 7, DONE, 3, STARTED, 8, DONE, 8, DONE, 1, DONE, 0);
            due(what + ": handled", x.variable(0, 1), 1);
            due(what + ": went on", x.variable(0, 2), 1);
            due(what + ": state", x.state(0), 1);
        }
    }

    private static void notCaught() {
        ScopeRunner x = throwing(4, 5);
        due("not caught: to the throw", x.run(0, 6), 6);
        dueStatuses("not caught", x, 0, RUNNING, RUNNING, IS_DONE, FAILING, IS_TERMINATED, IS_FAULTED, IDLE, IDLE, IDLE);
        dueEvents("not caught", x, 0, STARTED, 5, FAULTED, 5, TERMINATED, 4);
        due("not caught: the scope faults", x.run(0, 1), 1);
        dueStatuses("not caught: the scope faults", x, 0, FAILING, IS_TERMINATED, IS_DONE, IS_FAULTED);
        dueEvents("not caught: the scope faults", x, 0, TERMINATED, 4, FAULTED, 3, TERMINATED, 1);
        due("not caught: the root faults", x.run(0, 50), 1);
        due("not caught: state", x.state(0), 15);
        due("not caught: not handled", x.variable(0, 1), 0);
    }

    /** Scope 3 has an undo handler alone; the fault of its body goes up, and the undo handler never runs. */
    private static void undoHandlerCatchesNothing() {
        ScopeRunner x = process();
        add(x, 3, 1, 0, SCOPE, 0, 0);
        add(x, 4, 3, 0, THROW, 7, 0);
        add(x, 5, 3, 2, ADD, 1, 1);
        deployed("undo handler alone", x);
        x.message(0, 0, 0);
        due("undo handler alone: to the throw", x.run(0, 5), 5);
        due("undo handler alone: status", x.status(0, 3), FAILING);
        due("undo handler alone: to the end", x.run(0, 50), 2);
        dueEvents("undo handler alone", x, 0, STARTED, 4, FAULTED, 4, FAULTED, 3, TERMINATED, 1, FAULTED, 0);
        due("undo handler alone: handler", x.status(0, 5), IDLE);
        due("undo handler alone: state", x.state(0), 17);
    }

    /** The handlers of scope 3 have lower numbers than its body. */
    private static void bodyIsTheFirstPlainChild() {
        ScopeRunner x = process();
        add(x, 3, 1, 0, SCOPE, 0, 0);
        add(x, 4, 3, 2, ADD, 1, 1);
        add(x, 5, 3, 1, ADD, 2, 1);
        add(x, 6, 3, 0, INVOKE, 0, 3);
        deployed("body", x);
        x.message(0, 0, 0);
        x.message(0, 1, 0);
        due("body: run", x.run(0, 50), 5);
        dueStatuses("body", x, 0, RUNNING, RUNNING, IS_DONE, RUNNING, IDLE, IDLE, WAITING);
        due("body: answer", x.answer(0, 6, 0, 1), true);
        dueStatuses("body: completed", x, 0, IS_DONE, IS_DONE, IS_DONE, IS_DONE, IDLE, IDLE, IS_DONE);
        due("body: run 1", x.run(1, 50), 5);
        due("body: fault", x.answer(1, 6, 1, 1), true);
        due("body: the fault handler", x.next(1), 5);
        due("body: to the end", x.run(1, 50), 1);
        due("body: handled", x.variable(1, 2), 1);
        due("body: state", x.state(1), 1);
    }

    private static void faultHandlerCompletesWithoutEntry() {
        ScopeRunner x = throwing(0, 1);
        x.run(0, 7);
        due("handled: the scope is done", x.status(0, 3), IS_DONE);
        due("handled: no entry", x.kept(0, 0), 0);
    }

    private static void rethrow() {
        ScopeRunner x = process();
        add(x, 3, 1, 0, SCOPE, 0, 0);
        add(x, 4, 3, 0, THROW, 33, 0);
        add(x, 5, 3, 1, SEQUENCE, 0, 0);
        add(x, 6, 5, 0, RETHROW, 0, 0);
        add(x, 7, 0, 1, ADD, 1, 1);
        deployed("rethrow", x);
        x.message(0, 0, 0);
        due("rethrow: run", x.run(0, 7), 7);
        dueEvents("rethrow", x, 0, CAUGHT, 3, STARTED, 5, STARTED, 6, FAULTED, 6, TERMINATED, 5, FAULTED, 3, TERMINATED, 1, CAUGHT, 0);
        due("rethrow: to the end", x.run(0, 50), 1);
        due("rethrow: state", x.state(0), 1);
        ScopeRunner y = process();
        add(y, 3, 1, 0, THROW, 34, 0);
        add(y, 4, 0, 1, RETHROW, 0, 0);
        deployed("rethrow in the root", y);
        y.message(0, 0, 0);
        due("rethrow in the root: run", y.run(0, 50), 5);
        due("rethrow in the root: state", y.state(0), 44);
        dueEvents("rethrow in the root", y, 0, CAUGHT, 0, STARTED, 4, FAULTED, 4, FAULTED, 0);
    }

    /** Scope 3 holds scope 5 with an entry when 3's handler faults: 3's list is dropped, 5 is not undone. */
    private static void faultInAFaultHandler() {
        ScopeRunner x = process();
        add(x, 3, 1, 0, SCOPE, 0, 0);
        add(x, 4, 3, 0, SEQUENCE, 0, 0);
        add(x, 5, 4, 0, SCOPE, 0, 0);
        add(x, 6, 5, 0, EMPTY, 0, 0);
        add(x, 7, 4, 0, THROW, 8, 0);
        add(x, 8, 3, 1, THROW, 9, 0);
        deployed("handler faults", x);
        x.message(0, 0, 0);
        due("handler faults: to the handler", x.run(0, 8), 8);
        due("handler faults: kept", x.kept(0, 3), 1);
        due("handler faults: one step", x.run(0, 1), 1);
        dueEvents("handler faults", x, 0, CAUGHT, 3, STARTED, 8, FAULTED, 8, FAULTED, 3, TERMINATED, 1);
        due("handler faults: nothing kept", x.kept(0, 3), 0);
        due("handler faults: nothing kept by the root", x.kept(0, 0), 0);
        due("handler faults: to the end", x.run(0, 50), 1);
        due("handler faults: state", x.state(0), 19);
        due("handler faults: not undone", x.status(0, 5), IS_DONE);
    }

    /** In WHILE 3 scope 4 faults and ADD 6 handles it, twice; below it all is IDLE when the second round begins. */
    private static void handlersAreRenewedByAWhile() {
        ScopeRunner x = process();
        add(x, 3, 1, 0, WHILE, 1, 2);
        add(x, 4, 3, 0, SCOPE, 0, 0);
        add(x, 5, 4, 0, THROW, 1, 0);
        add(x, 6, 4, 1, ADD, 1, 1);
        deployed("renewed by a while", x);
        x.message(0, 0, 0);
        due("renewed by a while: to the end of a round", x.run(0, 7), 7);
        dueStatuses("renewed by a while: round", x, 0, RUNNING, RUNNING, IS_DONE, AGAIN, IS_DONE, IS_FAULTED, IS_DONE);
        due("renewed by a while: again", x.run(0, 1), 1);
        dueStatuses("renewed by a while", x, 0, RUNNING, RUNNING, IS_DONE, RUNNING, OPEN, IDLE, IDLE);
        due("renewed by a while: to the end", x.run(0, 50), 4);
        due("renewed by a while: state", x.state(0), 1);
    }

    private static void concurrentPartsEnd() {
        ScopeRunner x = process();
        add(x, 3, 1, 0, FLOW, 0, 0);
        add(x, 4, 3, 0, INVOKE, 0, 1);
        add(x, 5, 3, 0, SEQUENCE, 0, 0);
        add(x, 6, 5, 0, INVOKE, 0, 2);
        add(x, 7, 3, 0, WHILE, 0, 9);
        add(x, 8, 7, 0, RECEIVE, 1, 1);
        add(x, 9, 0, 1, EMPTY, 0, 0);
        deployed("concurrent", x);
        x.message(0, 0, 0);
        due("concurrent: run", x.run(0, 50), 9);
        due("concurrent: one answers", x.answer(0, 4, 0, 1), true);
        due("concurrent: the other faults", x.answer(0, 6, 3, 0), true);
        dueStatuses("concurrent", x, 0, HANDLING, IS_TERMINATED, IS_DONE, IS_TERMINATED, IS_DONE, IS_TERMINATED, IS_FAULTED, IS_TERMINATED, IS_TERMINATED, OPEN);
        dueEvents("concurrent", x, 0, FAULTED, 6, TERMINATED, 1, TERMINATED, 3, TERMINATED, 5, TERMINATED, 7, TERMINATED, 8, CAUGHT, 0);
        due("concurrent: a terminated receive takes nothing", x.message(1, 0, 0), -1);
        due("concurrent: to the end", x.run(0, 50), 1);
        due("concurrent: state", x.state(0), 1);
    }

    /** WHILE 3 lets scope 4 run so many rounds; each leaves its number in 4's own variable; then INVOKE 8 waits. */
    private static ScopeRunner looping(int rounds) {
        ScopeRunner x = process();
        add(x, 3, 1, 0, WHILE, 1, rounds);
        add(x, 4, 3, 0, SCOPE, 0, 0);
        add(x, 5, 4, 0, SEQUENCE, 0, 0);
        add(x, 6, 5, 0, ADD, 1, 1);
        add(x, 7, 5, 0, COPY, 4, 1);
        add(x, 8, 1, 0, INVOKE, 0, 0);
        return x;
    }

    private static void runAll(ScopeRunner x, int instance) {
        for (int i = 0; i < 10; i++) {
            x.run(instance, 50);
        }
    }

    private static void entriesAreKept() {
        ScopeRunner x = looping(3);
        deployed("kept", x);
        x.message(0, 0, 0);
        due("kept: to the first end", x.run(0, 8), 8);
        due("kept: one", x.kept(0, 0), 1);
        due("kept: the scope's own list", x.kept(0, 4), 0);
        due("kept: own", x.own(0, 4), 1);
        due("kept: again", x.run(0, 2), 2);
        due("kept: own is 0 anew", x.own(0, 4), 0);
        runAll(x, 0);
        due("kept: three", x.kept(0, 0), 3);
        due("kept: own of the last", x.own(0, 4), 3);
        due("kept: no scope", x.kept(0, 3), -1);
        due("kept: no activity", x.kept(0, 9), -1);
        due("kept: no instance", x.kept(1, 0), -1);
        x.answer(0, 8, 0, 0);
        due("kept: state", x.state(0), 1);
        due("kept: a root that completes keeps its list", x.kept(0, 0), 3);
    }

    /** Scope 3 around scopes 5 and 7: two entries in 3, then one in the root that holds them. */
    private static ScopeRunner nested() {
        ScopeRunner x = process();
        add(x, 3, 1, 0, SCOPE, 0, 0);
        add(x, 4, 3, 0, SEQUENCE, 0, 0);
        add(x, 5, 4, 0, SCOPE, 0, 0);
        add(x, 6, 5, 0, ADD, 4, 5);
        add(x, 7, 4, 0, SCOPE, 0, 0);
        add(x, 8, 7, 0, ADD, 4, 7);
        add(x, 9, 1, 0, INVOKE, 0, 0);
        return x;
    }

    private static void entriesHoldEntries() {
        ScopeRunner x = nested();
        deployed("nested", x);
        x.message(0, 0, 0);
        due("nested: to the inner ends", x.run(0, 8), 8);
        due("nested: one inside", x.kept(0, 3), 1);
        due("nested: to the outer end", x.run(0, 1), 1);
        due("nested: none inside", x.kept(0, 3), 0);
        due("nested: one in the root", x.kept(0, 0), 1);
        x.run(0, 50);
        due("nested: fault", x.answer(0, 9, 1, 0), true);
        due("nested: UNDO of the outer", x.run(0, 1), 1);
        due("nested: its list is back", x.kept(0, 3), 2);
        due("nested: the root's is not", x.kept(0, 0), 0);
        due("nested: status", x.status(0, 3), UNDOING);
    }

    private static void failingUndoesLatestFirst() {
        ScopeRunner x = looping(2);
        add(x, 9, 4, 2, COPY, 2, 4);
        deployed("failing", x);
        x.message(0, 0, 0);
        runAll(x, 0);
        due("failing: fault", x.answer(0, 8, 9, 0), true);
        due("failing: next", x.next(0), 0);
        due("failing: takes the latest", x.run(0, 1), 1);
        dueStatuses("failing", x, 0, FAILING, IS_TERMINATED, IS_DONE, IS_DONE, HANDLING);
        due("failing: handler", x.status(0, 9), OPEN);
        due("failing: kept", x.kept(0, 0), 1);
        due("failing: who took it is busy", x.next(0), 9);
        due("failing: own of the latest", x.own(0, 4), 2);
        due("failing: handler runs", x.run(0, 1), 1);
        due("failing: the latest was undone", x.variable(0, 2), 2);
        due("failing: UNDONE", x.status(0, 4), IS_UNDONE);
        due("failing: busy no more", x.next(0), 0);
        due("failing: the first", x.run(0, 2), 2);
        due("failing: the first was undone", x.variable(0, 2), 1);
        due("failing: still running", x.state(0), 0);
        due("failing: faults", x.run(0, 50), 1);
        due("failing: state", x.state(0), 19);
        dueEvents("failing", x, 0, TERMINATED, 1, UNDO, 4, STARTED, 9, DONE, 9, UNDONE, 4, UNDO, 4, STARTED, 9, DONE, 9, UNDONE, 4, FAULTED, 0);
    }

    /** Scopes 3 and 6 complete; the root's handler undoes 3 alone, and the entry of 6 is dropped. */
    private static void compensateOneScope() {
        ScopeRunner x = process();
        add(x, 3, 1, 0, SCOPE, 0, 0);
        add(x, 4, 3, 0, ADD, 4, 1);
        add(x, 5, 3, 2, ADD, 1, 1);
        add(x, 6, 1, 0, SCOPE, 0, 0);
        add(x, 7, 6, 0, ADD, 4, 1);
        add(x, 8, 6, 2, ADD, 2, 1);
        add(x, 9, 1, 0, THROW, 1, 0);
        add(x, 10, 0, 1, SEQUENCE, 0, 0);
        add(x, 11, 10, 0, COMPENSATE, 3, 0);
        add(x, 12, 10, 0, INVOKE, 0, 0);
        deployed("compensate", x);
        x.message(0, 0, 0);
        due("compensate: to the handler", x.run(0, 10), 10);
        dueStatuses("compensate", x, 0, HANDLING, IS_TERMINATED, IS_DONE, IS_DONE);
        due("compensate: UNDOING", x.status(0, 11), UNDOING);
        due("compensate: next", x.next(0), 11);
        due("compensate: to the undo", x.run(0, 1), 1);
        due("compensate: the other is kept", x.kept(0, 0), 1);
        due("compensate: busy", x.next(0), 5);
        due("compensate: to the invoke", x.run(0, 50), 3);
        due("compensate: 3 is undone", x.variable(0, 1), 1);
        due("compensate: 6 is not", x.variable(0, 2), 0);
        due("compensate: still kept", x.kept(0, 0), 1);
        dueEvents("compensate", x, 0, STARTED, 11, UNDO, 3, STARTED, 5, DONE, 5, UNDONE, 3, DONE, 11, STARTED, 12);
        due("compensate: answer", x.answer(0, 12, 0, 0), true);
        due("compensate: the list is dropped", x.kept(0, 0), 0);
        due("compensate: state", x.state(0), 1);
    }

    /** WHILE 3 lets scopes 5 and 8 complete twice, in turn; COMPENSATE 12 undoes those of scope 5, the latest first. */
    private static void compensateAllOfOneScope() {
        ScopeRunner x = process();
        add(x, 3, 1, 0, WHILE, 1, 2);
        add(x, 4, 3, 0, SEQUENCE, 0, 0);
        add(x, 5, 4, 0, SCOPE, 0, 0);
        add(x, 6, 5, 0, COPY, 4, 1);
        add(x, 7, 5, 2, COPY, 2, 4);
        add(x, 8, 4, 0, SCOPE, 0, 0);
        add(x, 9, 8, 0, ADD, 1, 1);
        add(x, 10, 1, 0, THROW, 1, 0);
        add(x, 11, 0, 1, SEQUENCE, 0, 0);
        add(x, 12, 11, 0, COMPENSATE, 5, 0);
        add(x, 13, 11, 0, INVOKE, 0, 0);
        deployed("all of one", x);
        x.message(0, 0, 0);
        due("all of one: to the handler", x.run(0, 19), 19);
        due("all of one: kept", x.kept(0, 0), 4);
        due("all of one: next", x.next(0), 12);
        due("all of one: first", x.run(0, 2), 2);
        due("all of one: the latest", x.variable(0, 2), 1);
        due("all of one: kept after the first", x.kept(0, 0), 3);
        due("all of one: second", x.run(0, 2), 2);
        due("all of one: the one before", x.variable(0, 2), 0);
        due("all of one: no third", x.run(0, 50), 2);
        due("all of one: the others stay", x.kept(0, 0), 2);
        dueEvents("all of one", x, 0, UNDO, 5, STARTED, 7, DONE, 7, UNDONE, 5, UNDO, 5, STARTED, 7, DONE, 7, UNDONE, 5, DONE, 12,
            STARTED, 13);
        due("all of one: 8 is not undone", x.status(0, 8), IS_DONE);
    }

    /** COMPENSATE 7 finds an empty list, or none but an entry of another scope. */
    private static void compensateWithNothingToUndo() {
        for (int turn = 0; turn < 3; turn++) {
            ScopeRunner x = process();
            add(x, 3, 1, 0, SCOPE, 0, 0);
            add(x, 4, 3, 0, turn == 0 ? THROW : EMPTY, 1, 0);
            add(x, 5, 1, 0, SCOPE, 0, 0);
            add(x, 6, 5, 0, THROW, 1, 0);
            add(x, 7, 0, 1, COMPENSATE, turn == 2 ? 5 : 0, 0);
            deployed("nothing to undo", x);
            x.message(0, 0, 0);
            String what = "nothing to undo, turn " + turn;
            due(what + ": to the compensate", x.run(0, turn == 0 ? 7 : 9), turn == 0 ? 7 : 9);
            due(what + ": status", x.status(0, 7), UNDOING);
            due(what + ": kept", x.kept(0, 0), turn == 0 ? 0 : 1);
            due(what + ": on", x.run(0, 1), 1);
            due(what + ": then", x.status(0, 7), turn == 1 ? UNDOING : IS_DONE);
            due(what + ": 3", x.status(0, 3), turn == 0 ? IS_FAULTED : turn == 1 ? UNDOING : IS_DONE);
            due(what + ": state", x.state(0), turn == 1 ? 0 : 1);
        }
    }

    /** Scope 3 around 5 with an undo handler each; 3's handler has no COMPENSATE, so 5 is not undone. */
    private static void handlerWithoutCompensate() {
        for (int turn = 0; turn < 2; turn++) {
            ScopeRunner x = nested();
            add(x, 10, 3, 2, turn == 0 ? EMPTY : COMPENSATE, 0, 0);
            add(x, 11, 5, 2, ADD, 1, 1);
            deployed("undo handler", x);
            x.message(0, 0, 0);
            runAll(x, 0);
            x.answer(0, 9, 2, 0);
            due("undo handler: begins", x.run(0, 1), 1);
            due("undo handler: the list is there", x.kept(0, 3), 2);
            runAll(x, 0);
            due("undo handler: 5 is undone by a COMPENSATE alone", x.variable(0, 1), turn);
            due("undo handler: 3 is undone", x.status(0, 3), IS_UNDONE);
            due("undo handler: 7", x.status(0, 7), turn == 0 ? IS_DONE : IS_UNDONE);
            due("undo handler: nothing kept", x.kept(0, 3), 0);
            due("undo handler: state", x.state(0), 12);
        }
    }

    private static void undoSeesItsOwnVariable() {
        ScopeRunner x = nested();
        add(x, 10, 5, 2, COPY, 1, 4);
        add(x, 11, 7, 2, SEQUENCE, 0, 0);
        add(x, 12, 11, 0, ADD, 4, 100);
        add(x, 13, 11, 0, COPY, 2, 4);
        deployed("own", x);
        x.message(0, 0, 0);
        runAll(x, 0);
        x.answer(0, 9, 2, 0);
        runAll(x, 0);
        due("own: of 5", x.variable(0, 1), 5);
        due("own: of 7", x.variable(0, 2), 107);
        due("own: 7 afterwards", x.own(0, 7), 107);
    }

    private static void undoneScopeWithoutHandlerUndoesItsList() {
        ScopeRunner x = nested();
        add(x, 10, 5, 2, EMPTY, 0, 0);
        deployed("list", x);
        x.message(0, 0, 0);
        runAll(x, 0);
        x.answer(0, 9, 2, 0);
        due("list: to the end", x.run(0, 50), 7);
        dueEvents("list", x, 0, TERMINATED, 1, UNDO, 3, UNDO, 7, UNDONE, 7, UNDO, 5, STARTED, 10, DONE, 10, UNDONE, 5, UNDONE, 3, FAULTED, 0);
        due("list: state", x.state(0), 12);
    }

    /** The undo handler has a link and a skipped part; it runs twice, and each time from the beginning. */
    private static void undoHandlerIsRenewed() {
        ScopeRunner x = looping(2);
        add(x, 9, 4, 2, FLOW, 0, 0);
        add(x, 10, 9, 0, EMPTY, 0, 0);
        add(x, 11, 9, 0, ADD, 2, 1);
        x.link(10, 11, 4, 2);
        deployed("renewed", x);
        x.message(0, 0, 0);
        runAll(x, 0);
        x.answer(0, 8, 9, 0);
        due("renewed: first undo", x.run(0, 4), 4);
        due("renewed: 2 < 2", x.linkState(0, 0), FALSE);
        due("renewed: skipped", x.status(0, 11), IS_SKIPPED);
        due("renewed: second undo begins", x.run(0, 1), 1);
        due("renewed: unset", x.linkState(0, 0), UNSET);
        due("renewed: idle", x.status(0, 11), IDLE);
        due("renewed: open", x.status(0, 9), OPEN);
        due("renewed: second undo", x.run(0, 3), 3);
        due("renewed: 1 < 2", x.linkState(0, 0), TRUE);
        due("renewed: once", x.variable(0, 2), 1);
    }

    private static void undoHandlerWaits() {
        ScopeRunner x = looping(1);
        add(x, 9, 4, 2, INVOKE, 0, 4);
        deployed("waits", x);
        x.message(0, 0, 0);
        runAll(x, 0);
        x.answer(0, 8, 9, 0);
        due("waits: run", x.run(0, 50), 2);
        due("waits: nobody can step", x.next(0), -1);
        due("waits: failing", x.status(0, 0), FAILING);
        due("waits: answer", x.answer(0, 9, 0, 77), true);
        due("waits: undone", x.status(0, 4), IS_UNDONE);
        due("waits: own", x.own(0, 4), 77);
        due("waits: next", x.next(0), 0);
        due("waits: end", x.run(0, 50), 1);
        due("waits: state", x.state(0), 19);
    }

    private static void failedUndoOfAFailingScope() {
        ScopeRunner x = looping(3);
        add(x, 9, 4, 2, SEQUENCE, 0, 0);
        add(x, 10, 9, 0, INVOKE, 0, 2);
        deployed("failed", x);
        x.message(0, 0, 0);
        runAll(x, 0);
        x.answer(0, 8, 9, 0);
        x.run(0, 50);
        due("failed: the first undo", x.answer(0, 10, 0, 0), true);
        x.run(0, 50);
        due("failed: kept", x.kept(0, 0), 1);
        due("failed: the second undo faults", x.answer(0, 10, 20, 0), true);
        due("failed: nothing kept", x.kept(0, 0), 0);
        due("failed: state", x.state(0), 30);
        dueEvents("failed", x, 0, UNDO, 4, STARTED, 9, STARTED, 10, FAULTED, 10, TERMINATED, 9, FAULTED, 4, FAULTED, 0);
        due("failed: status", x.status(0, 4), IS_FAULTED);
    }

    /** 3 has no undo handler and undoes 7, whose undo handler faults: 3's entry fails, then the root's fault. */
    private static void failedUndoThroughAnUndoingScope() {
        ScopeRunner x = nested();
        add(x, 10, 7, 2, THROW, 6, 0);
        deployed("through", x);
        x.message(0, 0, 0);
        runAll(x, 0);
        x.answer(0, 9, 2, 0);
        due("through: run", x.run(0, 50), 3);
        dueEvents("through", x, 0, UNDO, 3, UNDO, 7, STARTED, 10, FAULTED, 10, FAULTED, 7, FAULTED, 3, FAULTED, 0);
        due("through: 5 is dropped", x.kept(0, 3), 0);
        due("through: 5 is not undone", x.status(0, 5), IS_DONE);
        due("through: state", x.state(0), 16);
    }

    /** 3's undo handler SEQUENCE 10 undoes 7 by COMPENSATE 11; 7's undo handler THROW 12 faults. */
    private static void failedUndoOfACompensate() {
        ScopeRunner x = nested();
        add(x, 10, 3, 2, SEQUENCE, 0, 0);
        add(x, 11, 10, 0, COMPENSATE, 7, 0);
        add(x, 12, 7, 2, THROW, 6, 0);
        add(x, 13, 0, 1, SEQUENCE, 0, 0);
        add(x, 14, 13, 0, COMPENSATE, 0, 0);
        deployed("compensate fails", x);
        x.message(0, 0, 0);
        runAll(x, 0);
        x.answer(0, 9, 2, 0);
        due("compensate fails: run", x.run(0, 50), 7);
        dueEvents("compensate fails", x, 0, STARTED, 14, UNDO, 3, STARTED, 10, STARTED, 11, UNDO, 7, STARTED, 12, FAULTED, 12,
            FAULTED, 7, FAULTED, 11, TERMINATED, 10, FAULTED, 3, FAULTED, 14, TERMINATED, 13, FAULTED, 0);
        due("compensate fails: 5 is dropped", x.kept(0, 3), 0);
        due("compensate fails: state", x.state(0), 16);
    }

    /** The root's COMPENSATE 11 undoes 3, which has no undo handler and undoes 7, whose undo handler THROW 10 faults. */
    private static void failedUndoThroughAnUndoingScopeOfACompensate() {
        ScopeRunner x = nested();
        add(x, 10, 7, 2, THROW, 6, 0);
        add(x, 11, 0, 1, COMPENSATE, 3, 0);
        deployed("through to a compensate", x);
        x.message(0, 0, 0);
        runAll(x, 0);
        x.answer(0, 9, 2, 0);
        due("through to a compensate: run", x.run(0, 50), 4);
        dueEvents("through to a compensate", x, 0, CAUGHT, 0, STARTED, 11, UNDO, 3, UNDO, 7, STARTED, 10, FAULTED, 10, FAULTED, 7,
            FAULTED, 3, FAULTED, 11, FAULTED, 0);
        due("through to a compensate: 5 is dropped", x.kept(0, 3), 0);
        due("through to a compensate: 5 is not undone", x.status(0, 5), IS_DONE);
        due("through to a compensate: state", x.state(0), 16);
    }

    /**
     * In scope 3 (which catches 6, by ADD 13) scope 5 handles fault 2 by COMPENSATE 11, which undoes 7; the undo handler
     * THROW 9 raises 6, so the COMPENSATE and scope 5 fault with 6, and 3 catches that.
     */
    private static void failedCompensateIsCaughtFurtherOut() {
        for (int caught : new int[] {6, 2}) {
            ScopeRunner x = process();
            add(x, 3, 1, 0, SCOPE, caught, 0);
            add(x, 4, 3, 0, SEQUENCE, 0, 0);
            add(x, 5, 4, 0, SCOPE, 2, 0);
            add(x, 6, 5, 0, SEQUENCE, 0, 0);
            add(x, 7, 6, 0, SCOPE, 0, 0);
            add(x, 8, 7, 0, EMPTY, 0, 0);
            add(x, 9, 7, 2, THROW, 6, 0);
            add(x, 10, 6, 0, THROW, 2, 0);
            add(x, 11, 5, 1, COMPENSATE, 0, 0);
            add(x, 12, 4, 0, EMPTY, 0, 0);
            add(x, 13, 3, 1, ADD, 1, 1);
            deployed("caught further out", x);
            x.message(0, 0, 0);
            due("caught further out: to the throw", x.run(0, 12), 12);
            dueEvents("caught further out", x, 0, STARTED, 10, FAULTED, 10, TERMINATED, 6, CAUGHT, 5, STARTED, 11, UNDO, 7);
            due("caught further out: the handler", x.run(0, 1), 1);
            dueStatuses("caught further out", x, 0, RUNNING, RUNNING, IS_DONE, caught == 6 ? HANDLING : FAILING, IS_TERMINATED,
                IS_FAULTED, IS_TERMINATED, IS_FAULTED, IS_DONE, IS_FAULTED, IS_FAULTED, IS_FAULTED, IDLE, caught == 6 ? OPEN : IDLE);
            x.run(0, 50);
            due("caught further out: state", x.state(0), caught == 6 ? 1 : 16);
            due("caught further out: handled", x.variable(0, 1), caught == 6 ? 1 : 0);
        }
    }

    /**
     * FLOW 4 in scope 3: scope 5 with scope 7 done and INVOKE 9 waiting, scope 10 with 12 done and INVOKE 14 waiting,
     * INVOKE 15. When 15 faults, the entries of 7 and 12 come to 3 in the order in which they were made.
     */
    private static ScopeRunner gathering() {
        ScopeRunner x = process();
        add(x, 3, 1, 0, SCOPE, 0, 0);
        add(x, 4, 3, 0, FLOW, 0, 0);
        add(x, 5, 4, 0, SCOPE, 1, 0);
        add(x, 6, 5, 0, SEQUENCE, 0, 0);
        add(x, 7, 6, 0, SCOPE, 0, 0);
        add(x, 8, 7, 0, INVOKE, 0, 1);
        add(x, 9, 6, 0, INVOKE, 0, 1);
        add(x, 10, 4, 0, SCOPE, 0, 0);
        add(x, 11, 10, 0, SEQUENCE, 0, 0);
        add(x, 12, 11, 0, SCOPE, 0, 0);
        add(x, 13, 12, 0, ADD, 4, 1);
        add(x, 14, 11, 0, INVOKE, 0, 1);
        add(x, 15, 4, 0, INVOKE, 0, 1);
        return x;
    }

    private static void terminatedScopesGiveTheirEntries() {
        ScopeRunner x = gathering();
        deployed("gathering", x);
        x.message(0, 0, 0);
        x.run(0, 50);
        x.answer(0, 8, 0, 0);
        x.run(0, 50);
        due("gathering: 5 keeps", x.kept(0, 5), 1);
        due("gathering: 10 keeps", x.kept(0, 10), 1);
        due("gathering: fault", x.answer(0, 15, 2, 0), true);
        due("gathering: 5 gave", x.kept(0, 5), 0);
        due("gathering: 10 gave", x.kept(0, 10), 0);
        due("gathering: 3 got", x.kept(0, 3), 2);
        dueEvents("gathering", x, 0, FAULTED, 15, TERMINATED, 4, TERMINATED, 5, TERMINATED, 6, TERMINATED, 9,
            TERMINATED, 10, TERMINATED, 11, TERMINATED, 14);
        due("gathering: undone", x.run(0, 50), 6);
        dueEvents("gathering: 7 was made last", x, 0, UNDO, 7, UNDONE, 7, UNDO, 12, UNDONE, 12, FAULTED, 3, TERMINATED, 1, FAULTED, 0);
        due("gathering: state", x.state(0), 12);
    }

    /** 5 is FAILING and undoes 7 by a handler that waits; then 15 faults and ends them both. */
    private static void terminatedWhileUndoing() {
        ScopeRunner x = gathering();
        add(x, 16, 7, 2, INVOKE, 0, 1);
        add(x, 17, 3, 1, EMPTY, 0, 0);
        deployed("while undoing", x);
        x.message(0, 0, 0);
        x.run(0, 50);
        x.answer(0, 8, 0, 0);
        x.run(0, 50);
        due("while undoing: 9 faults", x.answer(0, 9, 3, 0), true);
        due("while undoing: run", x.run(0, 50), 2);
        due("while undoing: 5", x.status(0, 5), FAILING);
        due("while undoing: 7", x.status(0, 7), HANDLING);
        due("while undoing: 15 faults", x.answer(0, 15, 4, 0), true);
        dueEvents("while undoing", x, 0, FAULTED, 15, TERMINATED, 4, TERMINATED, 5, TERMINATED, 7, TERMINATED, 10,
            TERMINATED, 11, TERMINATED, 14, TERMINATED, 16, CAUGHT, 3);
        due("while undoing: one entry is left", x.kept(0, 3), 1);
        due("while undoing: to the end", x.run(0, 50), 1);
        due("while undoing: dropped by the handler", x.kept(0, 3), 0);
        due("while undoing: state", x.state(0), 1);
    }

    /**
     * In WHILE 3 scope 4 handles a fault of INVOKE 12 while, in it, scope 6 undoes scope 8 and waits for INVOKE 10:
     * by itself, or by COMPENSATE 14 in its fault handler. In the second round nobody is BUSY from the first.
     */
    private static ScopeRunner undoingTwice(boolean byHandler) {
        ScopeRunner x = process();
        add(x, 3, 1, 0, WHILE, 1, 2);
        add(x, 4, 3, 0, SCOPE, 0, 0);
        add(x, 5, 4, 0, FLOW, 0, 0);
        add(x, 6, 5, 0, SCOPE, 0, 0);
        add(x, 7, 6, 0, SEQUENCE, 0, 0);
        add(x, 8, 7, 0, SCOPE, 0, 0);
        add(x, 9, 8, 0, EMPTY, 0, 0);
        add(x, 10, 8, 2, INVOKE, 0, 2);
        add(x, 11, 7, 0, THROW, 1, 0);
        add(x, 12, 5, 0, INVOKE, 0, 3);
        add(x, 13, 4, 1, ADD, 1, 1);
        if (byHandler) {
            add(x, 14, 6, 1, COMPENSATE, 0, 0);
        }
        deployed("undoing twice", x);
        x.message(0, 0, 0);
        return x;
    }

    private static void terminatedWhileBusyAndRunAgain() {
        for (int turn = 0; turn < 2; turn++) {
            ScopeRunner x = undoingTwice(turn == 1);
            String what = "busy, turn " + turn;
            x.run(0, 50);
            due(what + ": the handler waits", x.status(0, 10), WAITING);
            due(what + ": nobody can step", x.next(0), -1);
            due(what + ": fault beside", x.answer(0, 12, 7, 0), true);
            due(what + ": scope 6", x.status(0, 6), IS_TERMINATED);
            x.run(0, 50);
            due(what + ": second round", x.variable(0, 1), 1);
            due(what + ": who undoes is not busy from before", x.status(0, 10), WAITING);
            due(what + ": scope 8", x.status(0, 8), HANDLING);
            due(what + ": answer", x.answer(0, 10, 0, 5), true);
            due(what + ": next", x.next(0), turn == 0 ? 6 : 14);
            x.answer(0, 12, 7, 0);
            x.run(0, 50);
            due(what + ": state", x.state(0), 1);
        }
    }

    private static void terminateWhileUndoing() {
        ScopeRunner x = undoingTwice(true);
        x.run(0, 50);
        due("terminate: 14 is busy", x.status(0, 14), UNDOING);
        due("terminate while undoing", x.terminate(0), true);
        dueEvents("terminate while undoing", x, 0, TERMINATED, 0, TERMINATED, 1, TERMINATED, 3, TERMINATED, 4, TERMINATED, 5,
            TERMINATED, 6, TERMINATED, 8, TERMINATED, 10, TERMINATED, 12, TERMINATED, 14);
    }

    private static void atMost16Entries() {
        ScopeRunner x = looping(16);
        deployed("16 entries", x);
        x.message(0, 0, 0);
        runAll(x, 0);
        due("16 entries: kept", x.kept(0, 0), 16);
        due("16 entries: waits", x.status(0, 8), WAITING);
        ScopeRunner y = looping(17);
        deployed("17 entries", y);
        y.message(0, 0, 0);
        runAll(y, 0);
        due("17 entries: state", y.state(0), 112);
        due("17 entries: all undone", y.status(0, 4), IS_UNDONE);
        due("17 entries: first own", y.own(0, 4), 1);
        due("17 entries: nothing kept", y.kept(0, 0), 0);
    }

    private static void entryFaultIsCaught() {
        ScopeRunner x = process();
        add(x, 3, 1, 0, WHILE, 1, 17);
        add(x, 4, 3, 0, SCOPE, 102, 0);
        add(x, 5, 4, 0, ADD, 1, 1);
        add(x, 6, 4, 1, ADD, 2, 1);
        add(x, 7, 1, 0, INVOKE, 0, 0);
        deployed("102", x);
        x.message(0, 0, 0);
        runAll(x, 0);
        due("102: handled", x.variable(0, 2), 1);
        due("102: kept", x.kept(0, 0), 16);
        dueEvents("102", x, 0, STARTED, 5, DONE, 5, FAULTED, 5, CAUGHT, 4, STARTED, 6, DONE, 6, DONE, 4, DONE, 3, STARTED, 7);
        due("102: the body", x.status(0, 5), IS_FAULTED);
        due("102: waits", x.state(0), 0);
    }

    private static void terminateLeavesLists() {
        ScopeRunner x = gathering();
        deployed("terminate", x);
        x.message(0, 0, 0);
        x.run(0, 50);
        due("terminate", x.terminate(0), true);
        due("terminate: lists stay", x.kept(0, 10), 1);
        due("terminate: and go nowhere", x.kept(0, 3), 0);
    }

    private static void rootsUndoHandlerNeverRuns() {
        ScopeRunner x = process();
        add(x, 3, 1, 0, THROW, 1, 0);
        add(x, 4, 0, 2, ADD, 1, 1);
        deployed("root", x);
        x.message(0, 0, 0);
        due("root: run", x.run(0, 50), 5);
        due("root: state", x.state(0), 11);
        due("root: its undo handler", x.status(0, 4), IDLE);
    }
}
