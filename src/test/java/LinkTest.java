/** Promises 3, 4 and 14 in running instances: links, conditions, joins, and what is skipped. */
public final class LinkTest extends Case {
    public static void main(String[] args) {
        targetWaits();
        conditions();
        ownVariableOfTheSource();
        joinModes();
        modeAtFirst();
        lastModeCounts();
        oneLinkIsEnoughForNone();
        skippedTree();
        skippedInASequence();
        lastOfASequenceIsSkipped();
        allOfAFlowAreSkipped();
        chosenChildOfAnIfIsSkipped();
        childNotChosenClosesItsLinks();
        childNotChosenWaitsForNoLink();
        skippedBody();
        skippedScopeClosesLinksOfItsHandlers();
        whileUnsets();
        whileLeavesOtherLinks();
        faultCloses();
        faultLeavesTheHandlersOwnLinks();
        failedFaultHandlerLeavesLinks();
        failedUndoHandlerLeavesLinks();
        terminateLeavesLinks();
        end("LinkTest");
    }

    private static void targetWaits() {
        ScopeRunner x = process();
        add(x, 3, 1, 0, FLOW, 0, 0);
        add(x, 4, 3, 0, COPY, 1, 2);
        add(x, 5, 3, 0, ADD, 2, 7);
        due("waits: link", x.link(5, 4, -1, -100), 0);
        deployed("waits", x);
        x.message(0, 0, 0);
        due("waits: to the flow", x.run(0, 4), 4);
        due("waits: unset", x.linkState(0, 0), UNSET);
        due("waits: open", x.status(0, 4), OPEN);
        due("waits: next", x.next(0), 5);
        due("waits: source", x.run(0, 1), 1);
        due("waits: set", x.linkState(0, 0), TRUE);
        due("waits: next is the target", x.next(0), 4);
        due("waits: to the end", x.run(0, 50), 1);
        due("waits: target ran after the source", x.variable(0, 1), 7);
        due("waits: state", x.state(0), 1);
        due("linkState 1", x.linkState(0, 1), -1);
        due("linkState -1", x.linkState(0, -1), -1);
        due("linkState: no instance", x.linkState(1, 0), -1);
    }

    private static void conditions() {
        ScopeRunner x = process();
        add(x, 3, 1, 0, FLOW, 0, 0);
        add(x, 4, 3, 0, ADD, 0, 1);
        add(x, 5, 3, 0, EMPTY, 0, 0);
        add(x, 6, 3, 0, EMPTY, 0, 0);
        due("conditions: link", x.link(4, 5, 0, 5), 0);
        due("conditions: link", x.link(4, 6, 0, Integer.MIN_VALUE), 1);
        deployed("conditions", x);
        x.message(0, 0, 3);
        x.message(0, 1, 4);
        due("conditions: run 0", x.run(0, 50), 7);
        due("conditions: 4 < 5", x.linkState(0, 0), TRUE);
        due("conditions: done", x.status(0, 5), IS_DONE);
        due("conditions: nothing is less", x.linkState(0, 1), FALSE);
        due("conditions: run 1", x.run(1, 50), 7);
        due("conditions: 5 < 5", x.linkState(1, 0), FALSE);
        due("conditions: skipped", x.status(1, 5), IS_SKIPPED);
        due("conditions: state", x.state(1), 1);
    }

    /** A link from the scope itself sees the own variable of the scope around it, one from inside the inner one. */
    private static void ownVariableOfTheSource() {
        ScopeRunner x = process();
        add(x, 3, 1, 0, FLOW, 0, 0);
        add(x, 4, 3, 0, SCOPE, 0, 0);
        add(x, 5, 4, 0, ADD, 4, 50);
        add(x, 6, 3, 0, EMPTY, 0, 0);
        add(x, 7, 3, 0, EMPTY, 0, 0);
        x.link(4, 6, 4, 50);
        x.link(5, 7, 4, 50);
        deployed("own", x);
        x.message(0, 0, 0);
        due("own: run", x.run(0, 50), 8);
        due("own: from the scope", x.linkState(0, 0), TRUE);
        due("own: from inside it", x.linkState(0, 1), FALSE);
    }

    /** EMPTY 4 and 5 lead to ADD 6; the conditions make the first link TRUE if START got 0, the second if less than 2. */
    private static ScopeRunner toBeJoined() {
        ScopeRunner x = process();
        add(x, 3, 1, 0, FLOW, 0, 0);
        add(x, 4, 3, 0, EMPTY, 0, 0);
        add(x, 5, 3, 0, EMPTY, 0, 0);
        add(x, 6, 3, 0, ADD, 1, 1);
        x.link(4, 6, 0, 1);
        x.link(5, 6, 0, 2);
        return x;
    }

    private static void modeAtFirst() {
        for (int value = 0; value <= 2; value++) {
            ScopeRunner x = toBeJoined();
            deployed("mode at first", x);
            x.message(0, 0, value);
            due("mode at first: run", x.run(0, 50), 7);
            due("mode at first: value " + value, x.status(0, 6), value < 2 ? IS_DONE : IS_SKIPPED);
        }
    }

    /** Each mode after each other one; START's value 1 makes one link TRUE, 2 none. */
    private static void lastModeCounts() {
        for (int earlier = 0; earlier <= 3; earlier++) {
            for (int mode = 0; mode <= 3; mode++) {
                ScopeRunner x = toBeJoined();
                due("last mode: earlier", x.join(6, earlier), true);
                due("last mode: last", x.join(6, mode), true);
                deployed("last mode", x);
                x.message(0, 0, 1);
                x.message(0, 1, 2);
                x.run(0, 50);
                x.run(1, 50);
                int missed = mode < 2 ? IS_SKIPPED : IS_FAULTED;
                due("last mode: " + mode + " after " + earlier, x.status(0, 6), mode % 2 == 0 ? IS_DONE : missed);
                due("last mode: " + mode + " after " + earlier + ", none", x.status(1, 6), missed);
            }
        }
    }

    private static ScopeRunner joined(int mode, int value) {
        ScopeRunner x = toBeJoined();
        due("joins: mode " + mode, x.join(6, mode), true);
        deployed("joins", x);
        x.message(0, 0, value);
        due("joins: to the sources", x.run(0, 5), 5);
        due("joins: one link is unset", x.linkState(0, 1), UNSET);
        due("joins: the target waits for all links", x.next(0), 5);
        x.run(0, 2);
        return x;
    }

    private static void joinModes() {
        for (int mode = 0; mode <= 3; mode++) {
            for (int value = 0; value <= 2; value++) {
                ScopeRunner x = joined(mode, value);
                String what = "joins: mode " + mode + ", value " + value;
                boolean holds = value == 0 || value == 1 && (mode == 0 || mode == 2);
                int missed = mode >= 2 ? IS_FAULTED : IS_SKIPPED;
                due(what, x.status(0, 6), holds ? IS_DONE : missed);
                due(what + ": variable", x.variable(0, 1), holds ? 1 : 0);
                if (holds) {
                    dueEvents(what, x, 0, STARTED, 6, DONE, 6, DONE, 3, DONE, 1, DONE, 0);
                } else if (mode < 2) {
                    dueEvents(what, x, 0, DONE, 5, SKIPPED, 6, DONE, 3, DONE, 1, DONE, 0);
                } else {
                    dueEvents(what, x, 0, DONE, 5, FAULTED, 6, TERMINATED, 1, TERMINATED, 3);
                    x.run(0, 1);
                }
                due(what + ": state", x.state(0), holds || mode < 2 ? 1 : 110);
            }
        }
    }

    private static void oneLinkIsEnoughForNone() {
        ScopeRunner x = process();
        add(x, 3, 1, 0, EMPTY, 0, 0);
        for (int a = 0; a <= 3; a++) {
            x.join(a, 2 + a % 2);
        }
        deployed("no links", x);
        x.message(0, 0, 0);
        due("no links: joins mean nothing", x.run(0, 50), 4);
        due("no links: state", x.state(0), 1);
    }

    /** FLOW 3: EMPTY 4 leads to SEQUENCE 5 of 6 and 7 (never), 7 leads to 8, 5 to 9. */
    private static void skippedTree() {
        ScopeRunner x = flowWith(SEQUENCE, 0, 0);
        add(x, 8, 3, 0, EMPTY, 0, 0);
        add(x, 9, 3, 0, EMPTY, 0, 0);
        x.link(4, 5, 0, 0);
        x.link(7, 8, -1, 0);
        x.link(5, 9, -1, 0);
        deployed("skipped", x);
        x.message(0, 0, 0);
        due("skipped: to the sequence", x.run(0, 6), 6);
        dueStatuses("skipped", x, 0, RUNNING, RUNNING, IS_DONE, RUNNING, IS_DONE, IS_SKIPPED, IDLE, IDLE, OPEN, OPEN);
        due("skipped: link from below", x.linkState(0, 1), FALSE);
        due("skipped: link from it", x.linkState(0, 2), FALSE);
        due("skipped: to the end", x.run(0, 50), 2);
        dueEvents("skipped", x, 0, SKIPPED, 5, SKIPPED, 8, SKIPPED, 9, DONE, 3, DONE, 1, DONE, 0);
    }

    private static void skippedInASequence() {
        ScopeRunner x = flowWith(SEQUENCE, 0, 0);
        x.link(4, 6, 0, 0);
        deployed("skipped in a sequence", x);
        x.message(0, 0, 0);
        due("skipped in a sequence: run", x.run(0, 50), 8);
        dueEvents("skipped in a sequence", x, 0, STARTED, 5, SKIPPED, 6, STARTED, 7, DONE, 7, DONE, 5, DONE, 3, DONE, 1, DONE, 0);
    }

    /** SEQUENCE 5 of EMPTY 6 and 7; EMPTY 4 leads to 7, or to both, and is never followed. */
    private static void lastOfASequenceIsSkipped() {
        for (int links = 1; links <= 2; links++) {
            ScopeRunner x = flowWith(SEQUENCE, 0, 0);
            x.link(4, 7, 0, 0);
            if (links == 2) {
                x.link(4, 6, 0, 0);
            }
            deployed("last skipped", x);
            x.message(0, 0, 0);
            due("last skipped: run", x.run(0, 50), 8);
            due("last skipped: the first", x.status(0, 6), links == 1 ? IS_DONE : IS_SKIPPED);
            dueEvents("last skipped", x, 0, links == 1 ? DONE : SKIPPED, 6, SKIPPED, 7, DONE, 5, DONE, 3, DONE, 1, DONE, 0);
        }
    }

    private static void allOfAFlowAreSkipped() {
        ScopeRunner x = flowWith(FLOW, 0, 0);
        x.link(4, 6, 0, 0);
        x.link(4, 7, 0, 0);
        deployed("all skipped", x);
        x.message(0, 0, 0);
        due("all skipped: to the first", x.run(0, 7), 7);
        due("all skipped: one is left", x.status(0, 5), RUNNING);
        due("all skipped: run", x.run(0, 50), 1);
        dueEvents("all skipped", x, 0, STARTED, 5, SKIPPED, 6, SKIPPED, 7, DONE, 5, DONE, 3, DONE, 1, DONE, 0);
    }

    /** FLOW 3 of EMPTY 4 and IF 5, whose first child EMPTY 6 is chosen but not followed to. */
    private static void chosenChildOfAnIfIsSkipped() {
        ScopeRunner x = flowWith(IF, 0, 1);
        x.link(4, 6, 0, 0);
        deployed("chosen", x);
        x.message(0, 0, 0);
        due("chosen: run", x.run(0, 50), 7);
        dueEvents("chosen", x, 0, STARTED, 5, SKIPPED, 7, SKIPPED, 6, DONE, 5, DONE, 3, DONE, 1, DONE, 0);
    }

    /** IF 4 of EMPTY 5 and SEQUENCE 6 of EMPTY 7; links from 5, 6 and 7 to EMPTY 8, 9 and 10. */
    private static void childNotChosenClosesItsLinks() {
        for (int value = 0; value <= 1; value++) {
            ScopeRunner x = process();
            add(x, 3, 1, 0, FLOW, 0, 0);
            add(x, 4, 3, 0, IF, 0, 1);
            add(x, 5, 4, 0, EMPTY, 0, 0);
            add(x, 6, 4, 0, SEQUENCE, 0, 0);
            add(x, 7, 6, 0, EMPTY, 0, 0);
            add(x, 8, 3, 0, EMPTY, 0, 0);
            add(x, 9, 3, 0, EMPTY, 0, 0);
            add(x, 10, 3, 0, EMPTY, 0, 0);
            x.link(5, 8, -1, 0);
            x.link(6, 9, -1, 0);
            x.link(7, 10, -1, 0);
            deployed("not chosen", x);
            x.message(0, 0, value);
            due("not chosen: to the if", x.run(0, 5), 5);
            due("not chosen: from the first child", x.linkState(0, 0), value == 0 ? UNSET : FALSE);
            due("not chosen: from the second child", x.linkState(0, 1), value == 0 ? FALSE : UNSET);
            due("not chosen: from below it", x.linkState(0, 2), value == 0 ? FALSE : UNSET);
            due("not chosen: it alone is skipped", x.status(0, 7), IDLE);
            x.run(0, 50);
            due("not chosen: target of the first", x.status(0, 8), value == 0 ? IS_DONE : IS_SKIPPED);
            due("not chosen: target of the second", x.status(0, 9), value == 0 ? IS_SKIPPED : IS_DONE);
            due("not chosen: target of one below", x.status(0, 10), value == 0 ? IS_SKIPPED : IS_DONE);
            due("not chosen: state", x.state(0), 1);
        }
    }

    /** EMPTY 6 is not chosen while the link from INVOKE 7 to it is UNSET; setting that link changes nothing for it. */
    private static void childNotChosenWaitsForNoLink() {
        ScopeRunner x = process();
        add(x, 3, 1, 0, FLOW, 0, 0);
        add(x, 4, 3, 0, IF, 0, 1);
        add(x, 5, 4, 0, EMPTY, 0, 0);
        add(x, 6, 4, 0, EMPTY, 0, 0);
        add(x, 7, 3, 0, INVOKE, 0, 1);
        x.link(7, 6, -1, 0);
        due("no link: join", x.join(6, 3), true);
        deployed("no link", x);
        x.message(0, 0, 0);
        due("no link: run", x.run(0, 50), 7);
        due("no link: unset", x.linkState(0, 0), UNSET);
        dueStatuses("no link", x, 0, RUNNING, RUNNING, IS_DONE, RUNNING, IS_DONE, IS_DONE, IS_SKIPPED, WAITING);
        due("no link: answer", x.answer(0, 7, 0, 0), true);
        due("no link: set", x.linkState(0, 0), TRUE);
        due("no link: still skipped", x.status(0, 6), IS_SKIPPED);
        due("no link: state", x.state(0), 1);
    }

    /** Scope 5 is skipped; its undo handler is FLOW 7 of EMPTY 8 and 9 with a link between them. */
    private static void skippedScopeClosesLinksOfItsHandlers() {
        ScopeRunner x = process();
        add(x, 3, 1, 0, FLOW, 0, 0);
        add(x, 4, 3, 0, EMPTY, 0, 0);
        add(x, 5, 3, 0, SCOPE, 0, 0);
        add(x, 6, 5, 0, EMPTY, 0, 0);
        add(x, 7, 5, 2, FLOW, 0, 0);
        add(x, 8, 7, 0, EMPTY, 0, 0);
        add(x, 9, 7, 0, EMPTY, 0, 0);
        x.link(4, 5, 0, 0);
        x.link(8, 9, -1, 0);
        deployed("skipped scope", x);
        x.message(0, 0, 0);
        due("skipped scope: before", x.run(0, 5), 5);
        due("skipped scope: unset", x.linkState(0, 1), UNSET);
        due("skipped scope: run", x.run(0, 50), 1);
        due("skipped scope: a link in its handler", x.linkState(0, 1), FALSE);
        due("skipped scope: no entry", x.kept(0, 0), 0);
        dueStatuses("skipped scope", x, 0, IS_DONE, IS_DONE, IS_DONE, IS_DONE, IS_DONE, IS_SKIPPED, IDLE, IDLE, IDLE, IDLE);
    }

    private static void skippedBody() {
        ScopeRunner x = process();
        add(x, 3, 1, 0, FLOW, 0, 0);
        add(x, 4, 3, 0, EMPTY, 0, 0);
        add(x, 5, 3, 0, SCOPE, 0, 0);
        add(x, 6, 5, 0, EMPTY, 0, 0);
        add(x, 7, 3, 0, INVOKE, 0, 0);
        x.link(4, 6, 0, 0);
        deployed("skipped body", x);
        x.message(0, 0, 0);
        due("skipped body: run", x.run(0, 50), 8);
        dueEvents("skipped body", x, 0, SKIPPED, 6, DONE, 5, STARTED, 7);
        due("skipped body: an entry is made", x.kept(0, 0), 1);
    }

    private static void whileUnsets() {
        ScopeRunner x = process();
        add(x, 3, 1, 0, WHILE, 1, 2);
        add(x, 4, 3, 0, FLOW, 0, 0);
        add(x, 5, 4, 0, ADD, 1, 1);
        add(x, 6, 4, 0, ADD, 2, 1);
        x.link(5, 6, 1, 2);
        deployed("while", x);
        x.message(0, 0, 0);
        due("while: first round", x.run(0, 7), 7);
        due("while: TRUE in the first", x.linkState(0, 0), TRUE);
        due("while: second round begins", x.run(0, 1), 1);
        due("while: unset", x.linkState(0, 0), UNSET);
        due("while: to the end", x.run(0, 50), 4);
        due("while: FALSE in the second", x.linkState(0, 0), FALSE);
        due("while: done once", x.variable(0, 2), 1);
        due("while: state", x.state(0), 1);
    }

    /** EMPTY 4 leads to WHILE 5 of ADD 6, and that to EMPTY 7. */
    private static void whileLeavesOtherLinks() {
        ScopeRunner x = process();
        add(x, 3, 1, 0, FLOW, 0, 0);
        add(x, 4, 3, 0, EMPTY, 0, 0);
        add(x, 5, 3, 0, WHILE, 1, 2);
        add(x, 6, 5, 0, ADD, 1, 1);
        add(x, 7, 3, 0, EMPTY, 0, 0);
        x.link(4, 5, -1, 0);
        x.link(5, 7, 1, 3);
        deployed("other links", x);
        x.message(0, 0, 0);
        due("other links: to the second round", x.run(0, 8), 8);
        due("other links: to the while", x.linkState(0, 0), TRUE);
        due("other links: from the while", x.linkState(0, 1), UNSET);
        due("other links: in the second round", x.status(0, 6), OPEN);
        due("other links: to the end", x.run(0, 50), 3);
        due("other links: from the while at its end", x.linkState(0, 1), TRUE);
        due("other links: state", x.state(0), 1);
    }

    /** Scope 3 catches what THROW 4 raises; in its fault handler FLOW 5, EMPTY 6 leads to EMPTY 7. */
    private static void faultLeavesTheHandlersOwnLinks() {
        ScopeRunner x = process();
        add(x, 3, 1, 0, SCOPE, 0, 0);
        add(x, 4, 3, 0, THROW, 1, 0);
        add(x, 5, 3, 1, FLOW, 0, 0);
        add(x, 6, 5, 0, EMPTY, 0, 0);
        add(x, 7, 5, 0, EMPTY, 0, 0);
        x.link(6, 7, -1, 0);
        deployed("handler's links", x);
        x.message(0, 0, 0);
        due("handler's links: to the fault", x.run(0, 5), 5);
        due("handler's links: unset", x.linkState(0, 0), UNSET);
        due("handler's links: to the end", x.run(0, 50), 3);
        due("handler's links: set", x.linkState(0, 0), TRUE);
        due("handler's links: target", x.status(0, 7), IS_DONE);
    }

    /** The root's fault handler FLOW 4 faults at INVOKE 5, which leads to EMPTY 6. */
    private static void failedFaultHandlerLeavesLinks() {
        ScopeRunner x = process();
        add(x, 3, 1, 0, THROW, 1, 0);
        add(x, 4, 0, 1, FLOW, 0, 0);
        add(x, 5, 4, 0, INVOKE, 0, 0);
        add(x, 6, 4, 0, EMPTY, 0, 0);
        x.link(5, 6, -1, 0);
        deployed("failed fault handler", x);
        x.message(0, 0, 0);
        due("failed fault handler: run", x.run(0, 50), 6);
        due("failed fault handler: fault", x.answer(0, 5, 2, 0), true);
        due("failed fault handler: link", x.linkState(0, 0), UNSET);
        dueEvents("failed fault handler", x, 0, STARTED, 5, FAULTED, 5, TERMINATED, 4, TERMINATED, 6, FAULTED, 0);
        due("failed fault handler: state", x.state(0), 12);
    }

    /** Scope 3 is undone by FLOW 5, which faults at INVOKE 6, which leads to EMPTY 7. */
    private static void failedUndoHandlerLeavesLinks() {
        ScopeRunner x = process();
        add(x, 3, 1, 0, SCOPE, 0, 0);
        add(x, 4, 3, 0, EMPTY, 0, 0);
        add(x, 5, 3, 2, FLOW, 0, 0);
        add(x, 6, 5, 0, INVOKE, 0, 0);
        add(x, 7, 5, 0, EMPTY, 0, 0);
        add(x, 8, 1, 0, THROW, 1, 0);
        x.link(6, 7, -1, 0);
        deployed("failed undo handler", x);
        x.message(0, 0, 0);
        due("failed undo handler: to the throw", x.run(0, 6), 6);
        due("failed undo handler: closed with the body", x.linkState(0, 0), FALSE);
        due("failed undo handler: to the invoke", x.run(0, 50), 3);
        due("failed undo handler: unset anew", x.linkState(0, 0), UNSET);
        due("failed undo handler: fault", x.answer(0, 6, 2, 0), true);
        due("failed undo handler: link", x.linkState(0, 0), UNSET);
        dueEvents("failed undo handler", x, 0, STARTED, 6, FAULTED, 6, TERMINATED, 5, TERMINATED, 7, FAULTED, 3, FAULTED, 0);
        due("failed undo handler: state", x.state(0), 12);
    }

    private static void faultCloses() {
        ScopeRunner x = process();
        add(x, 3, 1, 0, FLOW, 0, 0);
        add(x, 4, 3, 0, SCOPE, 0, 0);
        add(x, 5, 4, 0, SEQUENCE, 0, 0);
        add(x, 6, 5, 0, EMPTY, 0, 0);
        add(x, 7, 5, 0, THROW, 1, 0);
        add(x, 8, 4, 1, EMPTY, 0, 0);
        add(x, 9, 3, 0, EMPTY, 0, 0);
        add(x, 10, 3, 0, EMPTY, 0, 0);
        add(x, 11, 3, 0, EMPTY, 0, 0);
        x.link(7, 10, -1, 0);
        x.link(6, 9, -1, 0);
        x.link(4, 11, -1, 0);
        deployed("fault", x);
        x.message(0, 0, 0);
        due("fault: to the throw", x.run(0, 8), 8);
        due("fault: a link from the body is closed", x.linkState(0, 0), FALSE);
        due("fault: a link that was set stays", x.linkState(0, 1), TRUE);
        due("fault: a link from the scope is not", x.linkState(0, 2), UNSET);
        due("fault: to the end", x.run(0, 50), 4);
        due("fault: the scope has completed", x.linkState(0, 2), TRUE);
        dueEvents("fault", x, 0, STARTED, 9, DONE, 9, SKIPPED, 10, STARTED, 11, DONE, 11, DONE, 3, DONE, 1, DONE, 0);
    }

    private static void terminateLeavesLinks() {
        ScopeRunner x = process();
        add(x, 3, 1, 0, FLOW, 0, 0);
        add(x, 4, 3, 0, INVOKE, 0, 0);
        add(x, 5, 3, 0, SCOPE, 0, 0);
        add(x, 6, 5, 0, EMPTY, 0, 0);
        x.link(4, 5, -1, 0);
        deployed("terminate", x);
        x.message(0, 0, 0);
        x.run(0, 50);
        due("terminate", x.terminate(0), true);
        due("terminate: the link stays", x.linkState(0, 0), UNSET);
    }
}
