/** Statuses: who can step, who is ACTIVE, and what becomes of each status when things end (promises 7, 9, 11, 18). */
public final class StatusTest extends Case {
    /** Who steps, in order, until COMPENSATE 23 has become UNDOING. */
    private static final int[] STEPS = {0, 1, 2, 3, 4, 5, 6, 7, 9, 10, 11, 4, 9, 4, 8, 12, 14, 15, 16, 18, 19, 21, 22, 23};

    public static void main(String[] args) {
        lowestNumberSteps();
        everyStatusAtOnce();
        terminateEndsTheActive();
        terminateEndsAnUndoingScope();
        terminateBeforeTheFirstStep();
        faultEndsTheActive();
        faultEndsWhatLiesBelowOnly();
        waitingAndBusyCannotStep();
        end("StatusTest");
    }

    /**
     * FLOW 3 of: scope 4, which fails and undoes scope 9 and then scope 6 with INVOKE 8; IF 12 without a chosen child;
     * WHILE 14 of INVOKE 15; INVOKE 16 linked to EMPTY 17; SEQUENCE 18 of INVOKE 19 and EMPTY 20; scope 21, whose body
     * THROW 22 is caught, with COMPENSATE 23.
     */
    private static ScopeRunner everything() {
        ScopeRunner x = process();
        add(x, 3, 1, 0, FLOW, 0, 0);
        add(x, 4, 3, 0, SCOPE, 0, 0);
        add(x, 5, 4, 0, SEQUENCE, 0, 0);
        add(x, 6, 5, 0, SCOPE, 0, 0);
        add(x, 7, 6, 0, EMPTY, 0, 0);
        add(x, 8, 6, 2, INVOKE, 0, 1);
        add(x, 9, 5, 0, SCOPE, 0, 0);
        add(x, 10, 9, 0, EMPTY, 0, 0);
        add(x, 11, 5, 0, THROW, 1, 0);
        add(x, 12, 3, 0, IF, 0, 0);
        add(x, 13, 12, 0, EMPTY, 0, 0);
        add(x, 14, 3, 0, WHILE, 0, 1);
        add(x, 15, 14, 0, INVOKE, 0, 1);
        add(x, 16, 3, 0, INVOKE, 0, 1);
        add(x, 17, 3, 0, EMPTY, 0, 0);
        add(x, 18, 3, 0, SEQUENCE, 0, 0);
        add(x, 19, 18, 0, INVOKE, 0, 1);
        add(x, 20, 18, 0, EMPTY, 0, 0);
        add(x, 21, 3, 0, SCOPE, 0, 0);
        add(x, 22, 21, 0, THROW, 2, 0);
        add(x, 23, 21, 1, COMPENSATE, 0, 0);
        due("everything: link", x.link(16, 17, -1, 0), 0);
        deployed("everything", x);
        due("everything: message", x.message(0, 0, 0), 0);
        return x;
    }

    private static void lowestNumberSteps() {
        ScopeRunner x = everything();
        for (int i = 0; i < STEPS.length; i++) {
            due("lowest: next before step " + i, x.next(0), STEPS[i]);
            due("lowest: step " + i, x.run(0, 1), 1);
        }
        due("lowest: COMPENSATE again", x.next(0), 23);
        due("lowest: answer", x.answer(0, 15, 0, 0), true);
        due("lowest: AGAIN is lower than UNDOING", x.next(0), 14);
        due("lowest: answer", x.answer(0, 8, 0, 0), true);
        due("lowest: FAILING is lower than AGAIN", x.next(0), 4);
    }

    private static ScopeRunner inEveryStatus() {
        ScopeRunner x = everything();
        due("every status: run", x.run(0, STEPS.length), STEPS.length);
        due("every status: answer", x.answer(0, 15, 0, 0), true);
        return x;
    }

    private static void everyStatusAtOnce() {
        dueStatuses("every status", inEveryStatus(), 0, RUNNING, RUNNING, IS_DONE, RUNNING, FAILING, IS_TERMINATED, HANDLING,
            IS_DONE, WAITING, IS_UNDONE, IS_DONE, IS_FAULTED, IS_DONE, IS_SKIPPED, AGAIN, IS_DONE, WAITING, OPEN, RUNNING,
            WAITING, IDLE, HANDLING, IS_FAULTED, UNDOING, -1);
    }

    private static void terminateEndsTheActive() {
        ScopeRunner x = inEveryStatus();
        int events = x.events(0);
        due("terminate", x.terminate(0), true);
        dueStatuses("terminate", x, 0, IS_TERMINATED, IS_TERMINATED, IS_DONE, IS_TERMINATED, IS_TERMINATED, IS_TERMINATED,
            IS_TERMINATED, IS_DONE, IS_TERMINATED, IS_UNDONE, IS_DONE, IS_FAULTED, IS_DONE, IS_SKIPPED, IS_TERMINATED, IS_DONE,
            IS_TERMINATED, IS_TERMINATED, IS_TERMINATED, IS_TERMINATED, IDLE, IS_TERMINATED, IS_FAULTED, IS_TERMINATED);
        due("terminate: an event for each", x.events(0), events + 13);
        dueEvents("terminate", x, 0, DONE, 15, TERMINATED, 0, TERMINATED, 1, TERMINATED, 3, TERMINATED, 4, TERMINATED, 6,
            TERMINATED, 8, TERMINATED, 14, TERMINATED, 16, TERMINATED, 17, TERMINATED, 18, TERMINATED, 19, TERMINATED, 21,
            TERMINATED, 23);
        due("terminate: the link stays", x.linkState(0, 0), UNSET);
        due("terminate: state", x.state(0), 2);
        due("terminate: next", x.next(0), -1);
    }

    private static void terminateEndsAnUndoingScope() {
        ScopeRunner x = everything();
        due("undoing: run", x.run(0, 12), 12);
        due("undoing: 4", x.status(0, 4), FAILING);
        due("undoing: 9", x.status(0, 9), UNDOING);
        due("undoing: kept", x.kept(0, 4), 1);
        due("undoing: terminate", x.terminate(0), true);
        dueEvents("undoing", x, 0, UNDO, 9, TERMINATED, 0, TERMINATED, 1, TERMINATED, 3, TERMINATED, 4, TERMINATED, 9,
            TERMINATED, 12, TERMINATED, 14, TERMINATED, 16, TERMINATED, 17, TERMINATED, 18, TERMINATED, 21);
        due("undoing: the list stays", x.kept(0, 4), 1);
        due("undoing: the list goes nowhere", x.kept(0, 0), 0);
    }

    private static void terminateBeforeTheFirstStep() {
        ScopeRunner x = everything();
        due("at once: terminate", x.terminate(0), true);
        dueStatuses("at once", x, 0, IS_TERMINATED, IDLE, IDLE, IDLE);
        dueAllEvents("at once", x, 0, TERMINATED, 0);
    }

    private static void faultEndsTheActive() {
        ScopeRunner x = inEveryStatus();
        due("fault", x.answer(0, 19, 3, 0), true);
        dueStatuses("fault", x, 0, FAILING, IS_TERMINATED, IS_DONE, IS_TERMINATED, IS_TERMINATED, IS_TERMINATED, IS_TERMINATED,
            IS_DONE, IS_TERMINATED, IS_UNDONE, IS_DONE, IS_FAULTED, IS_DONE, IS_SKIPPED, IS_TERMINATED, IS_DONE, IS_TERMINATED,
            IS_TERMINATED, IS_TERMINATED, IS_FAULTED, IDLE, IS_TERMINATED, IS_FAULTED, IS_TERMINATED);
        dueEvents("fault", x, 0, DONE, 15, FAULTED, 19, TERMINATED, 1, TERMINATED, 3, TERMINATED, 4, TERMINATED, 6, TERMINATED, 8,
            TERMINATED, 14, TERMINATED, 16, TERMINATED, 17, TERMINATED, 18, TERMINATED, 21, TERMINATED, 23);
        due("fault: the link is closed", x.linkState(0, 0), FALSE);
        due("fault: next", x.next(0), 0);
        due("fault: run", x.run(0, 50), 1);
        due("fault: state", x.state(0), 13);
    }

    /** INVOKE 8 is the undo handler of scope 6: its fault ends nothing beside it, but the undoing of scope 4. */
    private static void faultEndsWhatLiesBelowOnly() {
        ScopeRunner x = inEveryStatus();
        int events = x.events(0);
        due("below: fault", x.answer(0, 8, 50, 0), true);
        dueEvents("below", x, 0, DONE, 15, FAULTED, 8, FAULTED, 6, FAULTED, 4, TERMINATED, 1, TERMINATED, 3, TERMINATED, 14,
            TERMINATED, 16, TERMINATED, 17, TERMINATED, 18, TERMINATED, 19, TERMINATED, 21, TERMINATED, 23);
        due("below: count of events", x.events(0), events + 12);
        due("below: run", x.run(0, 50), 1);
        due("below: state", x.state(0), 60);
    }

    private static void waitingAndBusyCannotStep() {
        ScopeRunner x = everything();
        due("waiting: run", x.run(0, 50), 25);
        due("waiting: COMPENSATE has completed, with nothing to undo", x.status(0, 21), IS_DONE);
        dueStatuses("waiting", x, 0, RUNNING, RUNNING, IS_DONE, RUNNING, FAILING);
        due("waiting: 17 waits for a link", x.status(0, 17), OPEN);
        due("waiting: nobody can step", x.next(0), -1);
        due("waiting: run", x.run(0, 1), 0);
        due("waiting: still running", x.state(0), 0);
        due("waiting: the source", x.answer(0, 16, 0, 0), true);
        due("waiting: the target can step", x.next(0), 17);
    }
}
