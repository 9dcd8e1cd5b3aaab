/** The limits that the document names: each one reached, and the first thing beyond it. */
public final class LimitsTest extends Case {
    public static void main(String[] args) {
        lastOf512Calls();
        lastOf512RefusedCalls();
        lastOf512CallsOnEightInstances();
        startIsTheLastOf24();
        receiveIsTheLastOf24();
        fullProcessInAWhile();
        faultThrough24();
        nestedEntriesAreFull();
        failedEntriesThroughSixteenScopes();
        sixteenLinksToOne();
        sixteenLinksFromOne();
        eightInstances();
        endedInstancesCount();
        sixteenEntries();
        droppedAndUndoneEntriesCount();
        rootMakesNoEntry();
        fiftySteps();
        thirtyTwoEvents();
        exactlyThirtyTwoEvents();
        fewerEventsThanAsked();
        end("LimitsTest");
    }

    // ---- 512 calls

    /** WHILE 3 of EMPTY 4, without an end. */
    private static ScopeRunner endless() {
        ScopeRunner x = process();
        x.add(1, 0, WHILE, 1, HIGH);
        x.add(3, 0, EMPTY, 0, 0);
        x.deploy();
        return x;
    }

    private static void lastOf512Calls() {
        for (int last = 0; last < 3; last++) {
            ScopeRunner x = endless();
            due("512: message", x.message(0, 0, 0), 0);
            for (int calls = 7; calls < 511; calls++) {
                due("512: run", x.run(0, 50), 50);
            }
            switch (last) {
                case 0 -> due("512: events", x.events(0), 25201);
                case 1 -> due("512: event 31", x.event(0, 31), 32 * STARTED + 4);
                default -> due("512: the last run", x.run(0, 50), 50);
            }
        }
    }

    private static void lastOf512RefusedCalls() {
        ScopeRunner x = new ScopeRunner();
        for (int calls = 0; calls < 511; calls++) {
            due("512 refused: add", x.add(-1, 0, SCOPE, 103, 0), -1);
        }
        due("512 refused: the last", x.add(-1, 0, SCOPE, 102, 0), 0);
    }

    private static void lastOf512CallsOnEightInstances() {
        ScopeRunner x = process();
        x.add(1, 0, WHILE, 1, HIGH);
        x.add(3, 0, RECEIVE, 7, 2);
        x.deploy();
        int calls = 6;
        for (int i = 0; i < 8; i++) {
            due("512 on eight: message", x.message(0, i, 0), i);
            calls++;
        }
        for (int turn = 0; calls < 510; turn++) {
            int i = turn % 8;
            due("512 on eight: run", x.run(i, 50), turn < 8 ? 5 : 2);
            due("512 on eight: message", x.message(7, i, turn), i);
            calls += 2;
        }
        due("512 on eight: variable", x.variable(7, 2), 247);
        due("512 on eight: events", x.events(7), 5 + 31 * 2);
    }

    // ---- 24 activities

    private static void startIsTheLastOf24() {
        ScopeRunner x = new ScopeRunner();
        add(x, 0, -1, 0, SCOPE, 0, 0);
        for (int a = 1; a <= 22; a++) {
            add(x, a, a - 1, 0, SEQUENCE, 0, 0);
        }
        add(x, 23, 22, 0, RECEIVE, 7, 4);
        due("last of 24: one more", x.add(22, 0, EMPTY, 0, 0), -1);
        deployed("last of 24", x);
        due("last of 24: another operation", x.message(6, 0, 0), -1);
        due("last of 24: message", x.message(7, 0, 123), 0);
        due("last of 24: run", x.run(0, 23), 23);
        due("last of 24: next", x.next(0), 23);
        due("last of 24: START", x.run(0, 50), 1);
        due("last of 24: own", x.own(0, 0), 123);
        due("last of 24: events", x.events(0), 48);
        for (int k = 0; k < 24; k++) {
            due("last of 24: event " + k, x.event(0, k), 32 * DONE + k);
        }
        due("last of 24: state", x.state(0), 1);
    }

    /** RECEIVE 23 is the one that waits; no other message is taken. */
    private static void receiveIsTheLastOf24() {
        ScopeRunner x = process();
        add(x, 3, 1, 0, FLOW, 0, 0);
        for (int a = 4; a <= 22; a++) {
            add(x, a, 3, 0, a == 22 ? INVOKE : EMPTY, 0, 2);
        }
        add(x, 23, 3, 0, RECEIVE, 7, 1);
        deployed("receive 23", x);
        due("receive 23: message", x.message(0, 0, 0), 0);
        due("receive 23: nobody waits", x.message(7, 0, 1), -1);
        due("receive 23: run", x.run(0, 50), 24);
        due("receive 23: another operation", x.message(6, 0, 1), -1);
        due("receive 23: START's operation", x.message(0, 0, 1), -1);
        due("receive 23: taken", x.message(7, 0, 99), 0);
        due("receive 23: value", x.variable(0, 1), 99);
        due("receive 23: the flow is not done", x.status(0, 3), RUNNING);
        due("receive 23: the invoke", x.answer(0, 22, 0, 98), true);
        due("receive 23: value of the answer", x.variable(0, 2), 98);
        due("receive 23: state", x.state(0), 1);
    }

    /** 24 activities and 16 links: twice in WHILE 3, FLOW 4 of ADD 5, linked to EMPTY 6 to 21, and EMPTY 22 and 23. */
    private static void fullProcessInAWhile() {
        ScopeRunner x = process();
        add(x, 3, 1, 0, WHILE, 1, 2);
        add(x, 4, 3, 0, FLOW, 0, 0);
        add(x, 5, 4, 0, ADD, 1, 1);
        for (int a = 6; a <= 23; a++) {
            add(x, a, 4, 0, EMPTY, 0, 0);
        }
        for (int l = 0; l < 16; l++) {
            due("full: link " + l, x.link(5, 6 + l, 1, 2), l);
        }
        deployed("full", x);
        due("full: message", x.message(0, 0, 0), 0);
        due("full: first round", x.run(0, 24), 24);
        due("full: AGAIN", x.status(0, 3), AGAIN);
        dueLinks("full: first round", x, TRUE);
        due("full: second round begins", x.run(0, 1), 1);
        dueLinks("full: second round begins", x, UNSET);
        due("full: status of 23", x.status(0, 23), IDLE);
        due("full: second round", x.run(0, 50), 21);
        dueLinks("full: second round", x, FALSE);
        due("full: status of 21", x.status(0, 21), IS_SKIPPED);
        due("full: status of 23", x.status(0, 23), IS_DONE);
        due("full: state", x.state(0), 1);
    }

    private static void dueLinks(String what, ScopeRunner x, int want) {
        for (int l = 0; l < 16; l++) {
            due(what + ": state of link " + l, x.linkState(0, l), want);
        }
    }

    /** Scopes 3 to 22, each the body of the one before, and the given kind as the body of the last. */
    private static ScopeRunner twentyScopes(int kind, int p) {
        ScopeRunner x = process();
        add(x, 3, 1, 0, SCOPE, 0, 0);
        for (int a = 4; a <= 22; a++) {
            add(x, a, a - 1, 0, SCOPE, 0, 0);
        }
        add(x, 23, 22, 0, kind, p, 0);
        deployed("twenty scopes", x);
        due("twenty scopes: message", x.message(0, 0, 0), 0);
        return x;
    }

    private static void faultThrough24() {
        ScopeRunner x = twentyScopes(THROW, 99);
        due("fault through 24: to the throw", x.run(0, 24), 24);
        due("fault through 24: innermost", x.status(0, 22), FAILING);
        for (int a = 22; a >= 3; a--) {
            due("fault through 24: next", x.next(0), a);
            due("fault through 24: step", x.run(0, 1), 1);
            due("fault through 24: status of " + a, x.status(0, a), IS_FAULTED);
        }
        due("fault through 24: root", x.run(0, 50), 1);
        due("fault through 24: state", x.state(0), 109);
    }

    // ---- 16 entries

    /** Scopes 22 to 7 leave sixteen entries, each in the list of the next, and the body of scope 6 faults. */
    private static void nestedEntriesAreFull() {
        ScopeRunner x = twentyScopes(EMPTY, 0);
        due("nested entries: run", x.run(0, 24), 24);
        dueEvents("nested entries", x, 0, STARTED, 22, STARTED, 23, DONE, 23, DONE, 22, DONE, 21, DONE, 20, DONE, 19, DONE, 18,
            DONE, 17, DONE, 16, DONE, 15, DONE, 14, DONE, 13, DONE, 12, DONE, 11, DONE, 10, DONE, 9, DONE, 8, DONE, 7, FAULTED, 7);
        due("nested entries: 6", x.status(0, 6), FAILING);
        due("nested entries: 5", x.status(0, 5), RUNNING);
        due("nested entries: kept", x.kept(0, 6), 1);
        due("nested entries: down", x.run(0, 16), 16);
        dueEvents("nested entries: down", x, 0, FAULTED, 7, UNDO, 7, UNDO, 8, UNDO, 9, UNDO, 10, UNDO, 11, UNDO, 12, UNDO, 13,
            UNDO, 14, UNDO, 15, UNDO, 16, UNDO, 17, UNDO, 18, UNDO, 19, UNDO, 20, UNDO, 21, UNDO, 22);
        due("nested entries: up", x.run(0, 16), 16);
        due("nested entries: first up", x.event(0, 15), 32 * UNDONE + 22);
        due("nested entries: last up", x.event(0, 0), 32 * UNDONE + 7);
        due("nested entries: to the end", x.run(0, 50), 5);
        dueEvents("nested entries: end", x, 0, UNDONE, 7, FAULTED, 6, FAULTED, 5, FAULTED, 4, FAULTED, 3, TERMINATED, 1, FAULTED, 0);
        due("nested entries: state", x.state(0), 112);
    }

    /** Scopes 3 to 18 leave sixteen entries in one another; the undo handler THROW 20 of the innermost faults. */
    private static void failedEntriesThroughSixteenScopes() {
        ScopeRunner x = process();
        add(x, 3, 1, 0, SCOPE, 0, 0);
        for (int a = 4; a <= 18; a++) {
            add(x, a, a - 1, 0, SCOPE, 0, 0);
        }
        add(x, 19, 18, 0, EMPTY, 0, 0);
        add(x, 20, 18, 2, THROW, 77, 0);
        add(x, 21, 1, 0, INVOKE, 0, 0);
        deployed("failed entries", x);
        x.message(0, 0, 0);
        due("failed entries: run", x.run(0, 50), 21);
        due("failed entries: kept", x.kept(0, 0), 1);
        due("failed entries: fault", x.answer(0, 21, 5, 0), true);
        due("failed entries: undo", x.run(0, 16), 16);
        due("failed entries: innermost", x.status(0, 18), HANDLING);
        due("failed entries: to the end", x.run(0, 50), 1);
        dueEvents("failed entries", x, 0, UNDO, 18, STARTED, 20, FAULTED, 20, FAULTED, 18, FAULTED, 17, FAULTED, 16, FAULTED, 15,
            FAULTED, 14, FAULTED, 13, FAULTED, 12, FAULTED, 11, FAULTED, 10, FAULTED, 9, FAULTED, 8, FAULTED, 7, FAULTED, 6,
            FAULTED, 5, FAULTED, 4, FAULTED, 3, FAULTED, 0);
        due("failed entries: state", x.state(0), 87);
    }

    /** WHILE 3 of scope 4 with ADD 5, as often as told; then INVOKE 6. */
    private static ScopeRunner rounds(int count) {
        ScopeRunner x = process();
        add(x, 3, 1, 0, WHILE, 1, count);
        add(x, 4, 3, 0, SCOPE, 0, 0);
        add(x, 5, 4, 0, ADD, 1, 1);
        add(x, 6, 1, 0, INVOKE, 0, 0);
        deployed("rounds", x);
        return x;
    }

    private static void sixteenEntries() {
        for (int count = 15; count <= 17; count++) {
            ScopeRunner x = rounds(count);
            for (int i = 0; i < 2; i++) {
                String what = "16 entries: " + count + " rounds in instance " + i;
                due(what + ": message", x.message(0, i, 0), i);
                due(what + ": run", x.run(i, 50), 50);
                boolean full = count == 17;
                due(what + ": run on", x.run(i, 4), full ? 4 : count == 16 ? 3 : 0);
                due(what + ": 6", x.status(i, 6), full ? IDLE : WAITING);
                due(what + ": 4", x.status(i, 4), full ? FAILING : IS_DONE);
                due(what + ": kept", x.kept(i, 0), Math.min(count, 16));
                due(what + ": last event", x.event(i, 0), full ? 32 * FAULTED + 5 : 32 * STARTED + 6);
            }
        }
    }

    /** In WHILE 3 scope 4 catches fault 5 after scope 6 has left an entry; its handler drops or undoes that. */
    private static void droppedAndUndoneEntriesCount() {
        for (int handler : new int[] {EMPTY, COMPENSATE}) {
            ScopeRunner x = process();
            add(x, 3, 1, 0, WHILE, 1, 20);
            add(x, 4, 3, 0, SCOPE, 5, 0);
            add(x, 5, 4, 0, SEQUENCE, 0, 0);
            add(x, 6, 5, 0, SCOPE, 0, 0);
            add(x, 7, 6, 0, EMPTY, 0, 0);
            add(x, 8, 5, 0, ADD, 1, 1);
            add(x, 9, 5, 0, THROW, 5, 0);
            add(x, 10, 4, 1, handler, 0, 0);
            deployed("entries count", x);
            x.message(0, 0, 0);
            for (int i = 0; i < 6; i++) {
                x.run(0, 50);
                due("entries count: nothing is kept by the root", x.kept(0, 0), 0);
            }
            due("entries count: sixteen rounds", x.variable(0, 1), 16);
            due("entries count: state", x.state(0), 112);
            due("entries count: the body", x.status(0, 7), IS_FAULTED);
            due("entries count: undone or not", x.status(0, 6), IS_FAULTED);
        }
    }

    private static void rootMakesNoEntry() {
        ScopeRunner x = rounds(16);
        x.message(0, 0, 0);
        x.run(0, 50);
        due("root: run", x.run(0, 50), 3);
        due("root: answer", x.answer(0, 6, 0, 0), true);
        due("root: completed with sixteen entries", x.state(0), 1);
        due("root: kept", x.kept(0, 0), 16);
        dueEvents("root", x, 0, STARTED, 6, DONE, 6, DONE, 1, DONE, 0);
    }

    // ---- 16 links

    /** EMPTY 4 to 19 in FLOW 3, all linked to ADD 20; a link is TRUE if START's value is less than its bound. */
    private static ScopeRunner linkedToOne(int mode, int value) {
        ScopeRunner x = process();
        add(x, 3, 1, 0, FLOW, 0, 0);
        for (int a = 4; a <= 19; a++) {
            add(x, a, 3, 0, EMPTY, 0, 0);
        }
        add(x, 20, 3, 0, ADD, 1, 1);
        for (int l = 0; l < 16; l++) {
            due("linked to one: link " + l, x.link(4 + l, 20, 0, l + 1), l);
        }
        due("linked to one: join", x.join(20, mode), true);
        deployed("linked to one", x);
        x.message(0, 0, value);
        return x;
    }

    private static void sixteenLinksToOne() {
        for (int mode = 0; mode <= 3; mode++) {
            for (int value : new int[] {0, 1, 15, 16}) {
                ScopeRunner x = linkedToOne(mode, value);
                String what = "linked to one: mode " + mode + ", value " + value;
                due(what + ": all but one source", x.run(0, 19), 19);
                due(what + ": the target waits", x.next(0), 19);
                due(what + ": on", x.run(0, 2), 2);
                for (int l = 0; l < 16; l++) {
                    due(what + ": link " + l, x.linkState(0, l), value < l + 1 ? TRUE : FALSE);
                }
                boolean holds = mode % 2 == 1 ? value == 0 : value < 16;
                due(what, x.status(0, 20), holds ? IS_DONE : mode < 2 ? IS_SKIPPED : IS_FAULTED);
            }
        }
    }

    private static void sixteenLinksFromOne() {
        ScopeRunner x = process();
        add(x, 3, 1, 0, FLOW, 0, 0);
        for (int a = 4; a <= 20; a++) {
            add(x, a, 3, 0, EMPTY, 0, 0);
        }
        for (int l = 0; l < 16; l++) {
            due("linked from one: link " + l, x.link(20, 4 + l, l % 2 == 0 ? -1 : 0, 0), l);
        }
        due("linked from one: the 17th", x.link(4, 5, -1, 0), -1);
        deployed("linked from one", x);
        x.message(0, 0, 0);
        due("linked from one: run", x.run(0, 5), 5);
        for (int l = 0; l < 16; l++) {
            due("linked from one: state of " + l, x.linkState(0, l), l % 2 == 0 ? TRUE : FALSE);
        }
        due("linked from one: to the end", x.run(0, 50), 16);
        due("linked from one: first", x.status(0, 4), IS_DONE);
        due("linked from one: last", x.status(0, 19), IS_SKIPPED);
        due("linked from one: state", x.state(0), 1);
    }

    // ---- 8 instances

    private static void eightInstances() {
        ScopeRunner x = process();
        deployed("eight", x);
        int[] keys = {LOW, HIGH, 0, -1, 1, 8, 24, LOW + 1};
        for (int i = 0; i < 8; i++) {
            due("eight: before " + i, x.state(i), -1);
            due("eight: message " + i, x.message(0, keys[i], 100 + i), i);
            due("eight: the same key", x.message(0, keys[i], 0), -1);
        }
        due("eight: the ninth", x.message(0, 77, 0), -1);
        due("eight: state of the ninth", x.state(8), -1);
        for (int i = 7; i >= 0; i--) {
            due("eight: run " + i, x.run(i, 50), 3);
            due("eight: value of " + i, x.variable(i, 0), 100 + i);
            due("eight: state of " + i, x.state(i), 1);
        }
    }

    /** Instances end in all three ways, with the same key; the eighth is the last. */
    private static void endedInstancesCount() {
        ScopeRunner x = process();
        add(x, 3, 1, 0, INVOKE, 0, 1);
        deployed("ended", x);
        for (int i = 0; i < 8; i++) {
            due("ended: message " + i, x.message(0, 5, i), i);
            if (i % 3 == 0) {
                due("ended: terminate " + i, x.terminate(i), true);
            } else {
                due("ended: run " + i, x.run(i, 50), 4);
                due("ended: answer " + i, x.answer(i, 3, i % 3 - 1, 0), true);
                x.run(i, 50);
            }
            due("ended: state of " + i, x.state(i), i % 3 == 0 ? 2 : i % 3 == 1 ? 1 : 11);
        }
        due("ended: the ninth", x.message(0, 5, 0), -1);
        due("ended: the ninth with another key", x.message(0, 6, 0), -1);
        due("ended: state of the ninth", x.state(8), -1);
    }

    // ---- 50 steps

    private static void fiftySteps() {
        for (int n : new int[] {1, 2, 49, 50}) {
            ScopeRunner x = endless();
            x.message(0, 0, 0);
            due("steps: " + n, x.run(0, n), n);
        }
        for (int n : new int[] {0, -1, 51, 52, LOW, HIGH}) {
            ScopeRunner x = endless();
            x.message(0, 0, 0);
            due("steps: " + n, x.run(0, n), 0);
            due("steps: nothing begins", x.events(0), 0);
        }
        for (int n = 1; n <= 5; n++) {
            ScopeRunner x = process();
            deployed("steps", x);
            x.message(0, 0, 0);
            due("steps: fewer at the end, of " + n, x.run(0, n), Math.min(n, 3));
            due("steps: state after " + n, x.state(0), n < 3 ? 0 : 1);
        }
    }

    // ---- 32 events

    private static void thirtyTwoEvents() {
        ScopeRunner x = endless();
        x.message(0, 0, 0);
        int[] log = new int[200];
        int count = 0;
        for (int step = 0; step < 75; step++) {
            due("32 events: step", x.run(0, 1), 1);
            int now = x.events(0);
            for (int k = now - count - 1; k >= 0; k--) {
                log[now - 1 - k] = x.event(0, k);
            }
            boolean more = now > count;
            count = now;
            if (more && (count == 31 || count == 33 || count == 63 || count == 65)) {
                dueLog(x, log, count);
            }
        }
        due("32 events: first of all", log[0], 32 * STARTED);
        due("32 events: fifth", log[4], 32 * STARTED + 3);
    }

    private static void dueLog(ScopeRunner x, int[] log, int count) {
        for (int k = 0; k < 32; k++) {
            due("32 events: event " + k + " of " + count, x.event(0, k), k < count ? log[count - 1 - k] : -1);
        }
        due("32 events: event 32 of " + count, x.event(0, 32), -1);
        due("32 events: event -1", x.event(0, -1), -1);
    }

    /** START and EMPTY 3 to 15 make 32 events: the first of them is still told. */
    private static void exactlyThirtyTwoEvents() {
        for (int last = 15; last <= 16; last++) {
            ScopeRunner x = process();
            for (int a = 3; a <= last; a++) {
                add(x, a, 1, 0, EMPTY, 0, 0);
            }
            deployed("exactly 32", x);
            x.message(0, 0, 0);
            due("exactly 32: run", x.run(0, 50), last + 1);
            due("exactly 32: count", x.events(0), last == 15 ? 32 : 34);
            due("exactly 32: 31", x.event(0, 31), last == 15 ? 32 * STARTED : 32 * STARTED + 2);
            due("exactly 32: 32", x.event(0, 32), -1);
            due("exactly 32: 33", x.event(0, 33), -1);
        }
    }

    private static void fewerEventsThanAsked() {
        ScopeRunner x = endless();
        x.message(0, 0, 0);
        due("events: none", x.events(0), 0);
        due("events: the latest of none", x.event(0, 0), -1);
        for (int step = 0; step < 12; step++) {
            x.run(0, 1);
            int count = x.events(0);
            due("events: the first of " + count, x.event(0, count - 1), 32 * STARTED);
            due("events: one more than " + count, x.event(0, count), -1);
            due("events: 31 of " + count, x.event(0, 31), -1);
        }
    }
}
