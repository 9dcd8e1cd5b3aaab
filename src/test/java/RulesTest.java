/** Promise 5: deploy and its rules. */
public final class RulesTest extends Case {
    public static void main(String[] args) {
        rule1();
        rule1Root();
        rule2();
        rule2Beside();
        rule3();
        rule3Deep();
        rule4Flows();
        rule4Scopes();
        rule5Ends();
        rule5Between();
        rule5Nearest();
        rule5LastLink();
        rule6();
        rule6FullProcess();
        rule7();
        rule7Handlers();
        rule7Links();
        leastNumber();
        brokenUntilMended();
        end("RulesTest");
    }

    private static void rule1() {
        for (int kind = SEQUENCE; kind <= SCOPE; kind++) {
            for (int children = 0; children <= 3; children++) {
                ScopeRunner x = process();
                add(x, 3, 1, 0, kind, 0, 0);
                for (int i = 0; i < children; i++) {
                    add(x, 4 + i, 3, 0, EMPTY, 0, 0);
                }
                boolean one = kind == WHILE || kind == SCOPE;
                boolean right = children >= 1 && (children == 1 || !one) && (children < 3 || kind != IF);
                due("rule 1: kind " + kind + " with " + children, x.deploy(), right ? 0 : 1);
            }
        }
        ScopeRunner x = process();
        add(x, 3, 0, 0, EMPTY, 0, 0);
        due("rule 1: a root with two children", x.deploy(), 1);
        ScopeRunner y = process();
        add(y, 3, 1, 0, SCOPE, 0, 0);
        add(y, 4, 3, 1, EMPTY, 0, 0);
        add(y, 5, 3, 2, EMPTY, 0, 0);
        due("rule 1: handlers are no children", y.deploy(), 1);
        add(y, 6, 3, 0, EMPTY, 0, 0);
        due("rule 1: mended", y.deploy(), 0);
    }

    private static void rule1Root() {
        ScopeRunner x = new ScopeRunner();
        due("rule 1: no root", x.deploy(), 1);
        add(x, 0, -1, 0, SCOPE, 0, 0);
        due("rule 1: a root without a body", x.deploy(), 1);
        add(x, 1, 0, 1, EMPTY, 0, 0);
        add(x, 2, 0, 2, EMPTY, 0, 0);
        due("rule 1: a root with handlers alone", x.deploy(), 1);
        add(x, 3, 0, 0, RECEIVE, 0, 0);
        due("rule 1: a root with a body", x.deploy(), 0);
    }

    private static void rule2() {
        for (int role = 1; role <= 2; role++) {
            ScopeRunner x = process();
            add(x, 3, 0, role, SCOPE, 0, 0);
            add(x, 4, 3, 0, EMPTY, 0, 0);
            due("rule 2: a scope is the handler, role " + role, x.deploy(), 2);
            ScopeRunner y = process();
            add(y, 3, 0, role, SEQUENCE, 0, 0);
            add(y, 4, 3, 0, IF, 0, 0);
            add(y, 5, 4, 0, SCOPE, 0, 0);
            add(y, 6, 5, 0, EMPTY, 0, 0);
            due("rule 2: a scope is below the handler, role " + role, y.deploy(), 2);
        }
    }

    private static void rule2Beside() {
        ScopeRunner x = process();
        add(x, 3, 1, 0, SCOPE, 0, 0);
        add(x, 4, 3, 1, EMPTY, 0, 0);
        add(x, 5, 3, 2, EMPTY, 0, 0);
        add(x, 6, 3, 0, SCOPE, 0, 0);
        add(x, 7, 6, 0, EMPTY, 0, 0);
        due("rule 2: a scope beside handlers", x.deploy(), 0);
    }

    private static void rule3() {
        for (int kind = RETHROW; kind <= COMPENSATE; kind += COMPENSATE - RETHROW) {
            ScopeRunner x = process();
            add(x, 3, 1, 0, kind, 0, 0);
            due("rule 3: kind " + kind + " in the body", x.deploy(), 3);
            ScopeRunner y = process();
            add(y, 3, 0, 1, SEQUENCE, 0, 0);
            add(y, 4, 3, 0, kind, 0, 0);
            due("rule 3: kind " + kind + " in a fault handler", y.deploy(), 0);
            ScopeRunner z = process();
            add(z, 3, 0, 2, kind, 0, 0);
            due("rule 3: kind " + kind + " as an undo handler", z.deploy(), kind == RETHROW ? 3 : 0);
        }
    }

    /** RETHROW and COMPENSATE at the end of SEQUENCE, IF and WHILE below each place. */
    private static void rule3Deep() {
        for (int kind = RETHROW; kind <= COMPENSATE; kind += COMPENSATE - RETHROW) {
            for (int role = 0; role <= 2; role++) {
                ScopeRunner x = process();
                add(x, 3, 1, 0, SCOPE, 0, 0);
                add(x, 4, 3, role, SEQUENCE, 0, 0);
                add(x, 5, 4, 0, IF, 0, 0);
                add(x, 6, 5, 0, WHILE, 0, 0);
                add(x, 7, 6, 0, kind, 0, 0);
                add(x, 8, role == 0 ? 4 : 3, 0, EMPTY, 0, 0);
                boolean right = role == 1 || role == 2 && kind == COMPENSATE;
                due("rule 3: kind " + kind + " below role " + role, x.deploy(), right ? 0 : 3);
            }
        }
        ScopeRunner x = process();
        add(x, 3, 0, 1, RETHROW, 0, 0);
        due("rule 3: a RETHROW is the handler", x.deploy(), 0);
    }

    private static void rule4Flows() {
        ScopeRunner x = process();
        add(x, 3, 0, 1, FLOW, 0, 0);
        add(x, 4, 3, 0, COMPENSATE, 0, 0);
        due("rule 4: the handler is a flow", x.deploy(), 4);
        ScopeRunner y = process();
        add(y, 3, 0, 2, SEQUENCE, 0, 0);
        add(y, 4, 3, 0, FLOW, 0, 0);
        add(y, 5, 4, 0, SEQUENCE, 0, 0);
        add(y, 6, 5, 0, COMPENSATE, 0, 0);
        due("rule 4: a flow far above", y.deploy(), 4);
        ScopeRunner z = process();
        add(z, 3, 0, 1, SEQUENCE, 0, 0);
        add(z, 4, 3, 0, FLOW, 0, 0);
        add(z, 5, 4, 0, EMPTY, 0, 0);
        add(z, 6, 3, 0, COMPENSATE, 0, 0);
        due("rule 4: a flow beside", z.deploy(), 0);
        ScopeRunner w = process();
        add(w, 3, 1, 0, FLOW, 0, 0);
        add(w, 4, 3, 0, SCOPE, 0, 0);
        add(w, 5, 4, 0, EMPTY, 0, 0);
        add(w, 6, 4, 1, COMPENSATE, 0, 0);
        due("rule 4: a flow above that lies in no handler", w.deploy(), 0);
    }

    /** Scope 4 in scope 3 in the root, scope 6 in the root; each of them, and some others, in a handler's p. */
    private static void rule4Scopes() {
        for (int role = 1; role <= 2; role++) {
            for (int p = 0; p < 24; p++) {
                String what = "rule 4: p " + p + " in role " + role;
                due(what + " of the root", withCompensate(0, role, p).deploy(), p == 0 || p == 3 || p == 6 ? 0 : 4);
                due(what + " of 3", withCompensate(3, role, p).deploy(), p == 0 || p == 4 ? 0 : 4);
                due(what + " of 4", withCompensate(4, role, p).deploy(), p == 0 ? 0 : 4);
            }
        }
    }

    private static ScopeRunner withCompensate(int scope, int role, int p) {
        ScopeRunner x = process();
        add(x, 3, 1, 0, SCOPE, 0, 0);
        add(x, 4, 3, 0, SCOPE, 0, 0);
        add(x, 5, 4, 0, EMPTY, 0, 0);
        add(x, 6, 1, 0, SCOPE, 0, 0);
        add(x, 7, 6, 0, EMPTY, 0, 0);
        add(x, 8, scope, role, SEQUENCE, 0, 0);
        add(x, 9, 8, 0, COMPENSATE, p, 0);
        return x;
    }

    /** FLOW 3 with EMPTY 4 and SEQUENCE 5 of EMPTY 6 and 7; EMPTY 8 behind the flow. */
    private static ScopeRunner withFlow() {
        ScopeRunner x = flowWith(SEQUENCE, 0, 0);
        add(x, 8, 1, 0, EMPTY, 0, 0);
        return x;
    }

    private static void linked(String what, int source, int target, int want) {
        ScopeRunner x = withFlow();
        due(what + ": link", x.link(source, target, -1, 0), 0);
        due(what, x.deploy(), want);
    }

    private static void rule5Ends() {
        linked("rule 5: to itself", 4, 4, 5);
        linked("rule 5: to one below", 5, 6, 5);
        linked("rule 5: to one above", 6, 5, 5);
        linked("rule 5: from the flow", 3, 4, 5);
        linked("rule 5: from the root", 0, 4, 5);
        linked("rule 5: to the root", 4, 0, 5);
        linked("rule 5: in a sequence", 6, 7, 5);
        linked("rule 5: out of the flow", 4, 8, 5);
        linked("rule 5: into the flow", 2, 4, 5);
        linked("rule 5: between children", 4, 5, 0);
        linked("rule 5: back between children", 5, 4, 0);
        linked("rule 5: from one further below", 7, 4, 0);
        linked("rule 5: to one further below", 4, 7, 0);
    }

    private static void rule5Between() {
        between("a while between", WHILE, 0, 5);
        between("a sequence between", SEQUENCE, 0, 0);
        between("a scope between", SCOPE, 0, 0);
        between("an if between", IF, 0, 0);
        between("a flow between", FLOW, 0, 0);
        between("a fault handler", SCOPE, 1, 5);
        between("an undo handler", SCOPE, 2, 5);
        whileIsAnEnd();
        whileFarBetween();
        handlerIsBetween();
        flowIsTheHandler();
        flowIsInTheHandler();
        flowIsInAWhile();
    }

    /** FLOW 3 with 4 of the kind, EMPTY 5 below it in the role, EMPTY 6; once from 5 to 6 and once back. */
    private static void between(String what, int kind, int role, int want) {
        for (int turn = 0; turn < 2; turn++) {
            ScopeRunner x = process();
            add(x, 3, 1, 0, FLOW, 0, 0);
            add(x, 4, 3, 0, kind, 0, 0);
            add(x, 5, 4, role, EMPTY, 0, 0);
            add(x, 6, 3, 0, EMPTY, 0, 0);
            if (role != 0) {
                add(x, 7, 4, 0, EMPTY, 0, 0);
            }
            x.link(turn == 0 ? 5 : 6, turn == 0 ? 6 : 5, -1, 0);
            due("rule 5: " + what + ", turn " + turn, x.deploy(), want);
        }
    }

    private static void whileIsAnEnd() {
        ScopeRunner x = process();
        add(x, 3, 1, 0, FLOW, 0, 0);
        add(x, 4, 3, 0, WHILE, 0, 0);
        add(x, 5, 4, 0, EMPTY, 0, 0);
        add(x, 6, 3, 0, WHILE, 0, 0);
        add(x, 7, 6, 0, EMPTY, 0, 0);
        x.link(4, 6, -1, 0);
        due("rule 5: a while to a while", x.deploy(), 0);
    }

    /** FLOW 3 with WHILE 4 of SEQUENCE 5 of EMPTY 6, and EMPTY 7. */
    private static void whileFarBetween() {
        int[][] links = {{6, 7, 5}, {7, 6, 5}, {5, 7, 5}, {7, 5, 5}, {4, 7, 0}, {7, 4, 0}};
        for (int[] link : links) {
            ScopeRunner x = process();
            add(x, 3, 1, 0, FLOW, 0, 0);
            add(x, 4, 3, 0, WHILE, 0, 0);
            add(x, 5, 4, 0, SEQUENCE, 0, 0);
            add(x, 6, 5, 0, EMPTY, 0, 0);
            add(x, 7, 3, 0, EMPTY, 0, 0);
            x.link(link[0], link[1], -1, 0);
            due("rule 5: from " + link[0] + " to " + link[1] + " around a while", x.deploy(), link[2]);
        }
    }

    /** FLOW 3 with scope 4 of body SEQUENCE 5 of EMPTY 6 and handler SEQUENCE 7 of EMPTY 8; and EMPTY 9. */
    private static void handlerIsBetween() {
        int[][] links = {{9, 8, 5}, {8, 9, 5}, {9, 7, 5}, {7, 9, 5}, {9, 6, 0}, {6, 9, 0}, {9, 4, 0}, {4, 9, 0}, {6, 8, 5}, {5, 7, 5}};
        for (int role = 1; role <= 2; role++) {
            for (int[] link : links) {
                ScopeRunner x = process();
                add(x, 3, 1, 0, FLOW, 0, 0);
                add(x, 4, 3, 0, SCOPE, 0, 0);
                add(x, 5, 4, 0, SEQUENCE, 0, 0);
                add(x, 6, 5, 0, EMPTY, 0, 0);
                add(x, 7, 4, role, SEQUENCE, 0, 0);
                add(x, 8, 7, 0, EMPTY, 0, 0);
                add(x, 9, 3, 0, EMPTY, 0, 0);
                x.link(link[0], link[1], -1, 0);
                due("rule 5: from " + link[0] + " to " + link[1] + " around role " + role, x.deploy(), link[2]);
            }
        }
    }

    private static void flowIsInTheHandler() {
        for (int role = 1; role <= 2; role++) {
            ScopeRunner x = process();
            add(x, 3, 0, role, SEQUENCE, 0, 0);
            add(x, 4, 3, 0, FLOW, 0, 0);
            add(x, 5, 4, 0, EMPTY, 0, 0);
            add(x, 6, 4, 0, SEQUENCE, 0, 0);
            add(x, 7, 6, 0, EMPTY, 0, 0);
            x.link(7, 5, -1, 0);
            due("rule 5: the flow is in a handler of role " + role, x.deploy(), 0);
        }
    }

    /** The nearest above both is each kind of parent in turn, in FLOW 3; a FLOW further up does not help. */
    private static void rule5Nearest() {
        for (int kind : new int[] {SEQUENCE, FLOW, IF}) {
            ScopeRunner x = process();
            add(x, 3, 1, 0, FLOW, 0, 0);
            add(x, 4, 3, 0, kind, 0, 0);
            add(x, 5, 4, 0, EMPTY, 0, 0);
            add(x, 6, 4, 0, EMPTY, 0, 0);
            x.link(5, 6, -1, 0);
            due("rule 5: nearest is of kind " + kind, x.deploy(), kind == FLOW ? 0 : 5);
        }
        for (int role = 1; role <= 2; role++) {
            ScopeRunner x = process();
            add(x, 3, 1, 0, FLOW, 0, 0);
            add(x, 4, 3, 0, SCOPE, 0, 0);
            add(x, 5, 4, 0, EMPTY, 0, 0);
            add(x, 6, 4, role, EMPTY, 0, 0);
            x.link(role == 1 ? 5 : 6, role == 1 ? 6 : 5, -1, 0);
            due("rule 5: nearest is a scope, role " + role, x.deploy(), 5);
        }
        ScopeRunner x = process();
        add(x, 3, 0, 1, EMPTY, 0, 0);
        x.link(1, 3, -1, 0);
        due("rule 5: nearest is the root", x.deploy(), 5);
    }

    /** Fifteen right links; the sixteenth alone breaks the rule, or keeps it. */
    private static void rule5LastLink() {
        for (int source : new int[] {2, 20}) {
            ScopeRunner x = process();
            add(x, 3, 1, 0, FLOW, 0, 0);
            for (int a = 4; a <= 21; a++) {
                add(x, a, 3, 0, EMPTY, 0, 0);
            }
            for (int l = 0; l < 15; l++) {
                due("rule 5: link " + l, x.link(4 + l, 5 + l, -1, 0), l);
            }
            due("rule 5: link 15", x.link(source, 21, -1, 0), 15);
            due("rule 5: link 15 from " + source, x.deploy(), source == 2 ? 5 : 0);
        }
    }

    private static void flowIsTheHandler() {
        ScopeRunner x = process();
        add(x, 3, 0, 1, FLOW, 0, 0);
        add(x, 4, 3, 0, EMPTY, 0, 0);
        add(x, 5, 3, 0, EMPTY, 0, 0);
        x.link(4, 5, -1, 0);
        due("rule 5: the flow is a handler", x.deploy(), 0);
    }

    private static void flowIsInAWhile() {
        ScopeRunner x = process();
        add(x, 3, 1, 0, WHILE, 0, 0);
        add(x, 4, 3, 0, FLOW, 0, 0);
        add(x, 5, 4, 0, EMPTY, 0, 0);
        add(x, 6, 4, 0, EMPTY, 0, 0);
        x.link(6, 5, -1, 0);
        due("rule 5: the flow is in a while", x.deploy(), 0);
    }

    private static void rule6() {
        ScopeRunner x = withFlow();
        x.link(4, 5, -1, 0);
        x.link(5, 4, -1, 0);
        due("rule 6: there and back", x.deploy(), 6);
        ScopeRunner y = withFlow();
        y.link(7, 4, -1, 0);
        y.link(4, 6, -1, 0);
        due("rule 6: against the sequence", y.deploy(), 6);
        ScopeRunner z = withFlow();
        z.link(6, 4, -1, 0);
        z.link(4, 7, -1, 0);
        due("rule 6: along the sequence", z.deploy(), 0);
        ScopeRunner w = withFlow();
        w.link(6, 4, -1, 0);
        w.link(4, 5, -1, 0);
        due("rule 6: a part's end before the whole's beginning", w.deploy(), 6);
        ScopeRunner v = withFlow();
        v.link(5, 4, -1, 0);
        v.link(4, 7, -1, 0);
        due("rule 6: the whole's end before a part's beginning", v.deploy(), 6);
        rule6InAFlow();
        rule6InAnIf();
        rule6OverThreeInASequence();
        rule6AroundThree();
        rule6FirstOfTwo();
        rule6TwoLinksToOne();
    }

    /** The whole's end before the beginning of its first part, of two that have no order or one. */
    private static void rule6FirstOfTwo() {
        for (int kind : new int[] {SEQUENCE, FLOW, IF}) {
            for (int part = 6; part <= 7; part++) {
                ScopeRunner x = flowWith(kind, 0, 0);
                x.link(5, 4, -1, 0);
                x.link(4, part, -1, 0);
                due("rule 6: from a whole of kind " + kind + " back to " + part, x.deploy(), 6);
            }
        }
    }

    /** FLOW 3 with EMPTY 4, SEQUENCE 5 of EMPTY 6 and 7, EMPTY 8; the link from 8 takes nothing from what is before its target. */
    private static void rule6TwoLinksToOne() {
        int[][] circles = {{5, 4, 4, 5, 4}, {6, 4, 4, 5, 6}, {7, 4, 4, 6, 7}, {7, 4, 4, 6, 6}};
        for (int[] c : circles) {
            ScopeRunner x = flowWith(SEQUENCE, 0, 0);
            add(x, 8, 3, 0, EMPTY, 0, 0);
            x.link(c[0], c[1], -1, 0);
            x.link(c[2], c[3], -1, 0);
            due("rule 6: a second link to " + c[4], x.link(8, c[4], -1, 0), 2);
            due("rule 6: from " + c[0] + " to " + c[1] + " to " + c[3] + ", and a link to " + c[4], x.deploy(), 6);
        }
    }

    private static void rule6InAnIf() {
        ScopeRunner x = flowWith(IF, 0, 0);
        x.link(7, 4, -1, 0);
        x.link(4, 6, -1, 0);
        due("rule 6: children of an if have no order", x.deploy(), 0);
    }

    /** SEQUENCE 5 of EMPTY 6, 7 and 8: from the last one back to the first, and from the first to the last. */
    private static void rule6OverThreeInASequence() {
        for (int turn = 0; turn < 2; turn++) {
            ScopeRunner x = flowWith(SEQUENCE, 0, 0);
            add(x, 8, 5, 0, EMPTY, 0, 0);
            x.link(turn == 0 ? 8 : 6, 4, -1, 0);
            x.link(4, turn == 0 ? 6 : 8, -1, 0);
            due("rule 6: three in a sequence, turn " + turn, x.deploy(), turn == 0 ? 6 : 0);
        }
    }

    /** EMPTY 4 to 23 in FLOW 3, so 24 in all; fifteen links in a row from 8 to 23, and a sixteenth. */
    private static void rule6FullProcess() {
        int[][] lastLinks = {{23, 8, 6}, {23, 22, 6}, {9, 8, 6}, {23, 7, 0}, {7, 8, 0}, {8, 23, 0}};
        for (int[] last : lastLinks) {
            ScopeRunner x = process();
            add(x, 3, 1, 0, FLOW, 0, 0);
            for (int a = 4; a <= 23; a++) {
                add(x, a, 3, 0, EMPTY, 0, 0);
            }
            for (int l = 0; l < 15; l++) {
                due("rule 6: link " + l, x.link(8 + l, 9 + l, -1, 0), l);
            }
            due("rule 6: link 15", x.link(last[0], last[1], -1, 0), 15);
            due("rule 6: of 24, from " + last[0] + " to " + last[1], x.deploy(), last[2]);
        }
    }

    private static void rule6InAFlow() {
        ScopeRunner x = flowWith(FLOW, 0, 0);
        x.link(7, 4, -1, 0);
        x.link(4, 6, -1, 0);
        due("rule 6: children of a flow have no order", x.deploy(), 0);
    }

    private static void rule6AroundThree() {
        ScopeRunner x = process();
        add(x, 3, 1, 0, FLOW, 0, 0);
        add(x, 4, 3, 0, EMPTY, 0, 0);
        add(x, 5, 3, 0, EMPTY, 0, 0);
        add(x, 6, 3, 0, EMPTY, 0, 0);
        x.link(4, 5, -1, 0);
        x.link(5, 6, -1, 0);
        x.link(6, 4, -1, 0);
        due("rule 6: around three", x.deploy(), 6);
    }

    private static void rule7() {
        for (int kind = EMPTY; kind <= INVOKE; kind++) {
            ScopeRunner x = new ScopeRunner();
            add(x, 0, -1, 0, SCOPE, 0, 0);
            add(x, 1, 0, 0, kind, 1, 1);
            int want = kind == RETHROW ? 3 : kind == RECEIVE ? 0 : 7;
            due("rule 7: the body is of kind " + kind, x.deploy(), want);
        }
        ScopeRunner x = new ScopeRunner();
        add(x, 0, -1, 0, SCOPE, 0, 0);
        add(x, 1, 0, 0, FLOW, 0, 0);
        add(x, 2, 1, 0, RECEIVE, 0, 0);
        due("rule 7: not through a flow", x.deploy(), 7);
        ScopeRunner y = new ScopeRunner();
        add(y, 0, -1, 0, SCOPE, 0, 0);
        add(y, 1, 0, 0, SEQUENCE, 0, 0);
        add(y, 2, 1, 0, SCOPE, 0, 0);
        add(y, 3, 2, 0, RECEIVE, 0, 0);
        due("rule 7: not through a scope", y.deploy(), 7);
        ScopeRunner z = new ScopeRunner();
        add(z, 0, -1, 0, SCOPE, 0, 0);
        add(z, 1, 0, 0, SEQUENCE, 0, 0);
        add(z, 2, 1, 0, SEQUENCE, 0, 0);
        add(z, 3, 1, 0, EMPTY, 0, 0);
        add(z, 4, 2, 0, SEQUENCE, 0, 0);
        add(z, 5, 4, 0, RECEIVE, 6, 0);
        due("rule 7: through three sequences", z.deploy(), 0);
        due("START's operation", z.message(6, 0, 0), 0);
    }

    /** The body of the root is its first plain child, whatever handlers were added before it. */
    private static void rule7Handlers() {
        ScopeRunner x = new ScopeRunner();
        add(x, 0, -1, 0, SCOPE, 0, 0);
        add(x, 1, 0, 2, RECEIVE, 1, 1);
        add(x, 2, 0, 1, RECEIVE, 2, 2);
        add(x, 3, 0, 0, RECEIVE, 3, 3);
        due("rule 7: handlers before the body", x.deploy(), 0);
        due("rule 7: the undo handler's operation", x.message(1, 0, 9), -1);
        due("rule 7: the fault handler's operation", x.message(2, 0, 9), -1);
        due("rule 7: START's operation", x.message(3, 0, 9), 0);
        due("rule 7: run", x.run(0, 50), 2);
        due("rule 7: value", x.variable(0, 3), 9);
        for (int kind = IF; kind <= WHILE; kind++) {
            ScopeRunner y = new ScopeRunner();
            add(y, 0, -1, 0, SCOPE, 0, 0);
            add(y, 1, 0, 0, SEQUENCE, 0, 0);
            add(y, 2, 1, 0, kind, 0, 0);
            add(y, 3, 2, 0, RECEIVE, 0, 0);
            due("rule 7: not through kind " + kind, y.deploy(), 7);
        }
        ScopeRunner z = new ScopeRunner();
        add(z, 0, -1, 0, SCOPE, 0, 0);
        add(z, 1, 0, 0, SEQUENCE, 0, 0);
        add(z, 2, 1, 0, EMPTY, 0, 0);
        add(z, 3, 1, 0, RECEIVE, 0, 0);
        due("rule 7: the first child alone counts", z.deploy(), 7);
    }

    /** A link to START or to a SEQUENCE on the way has no FLOW above both its ends, so rule 5 is the least one broken. */
    private static void rule7Links() {
        for (int target = 1; target <= 2; target++) {
            ScopeRunner x = withFlow();
            due("rule 7: link", x.link(4, target, -1, 0), 0);
            due("rule 7: a link to " + target, x.deploy(), 5);
        }
    }

    private static void brokenUntilMended() {
        ScopeRunner x = process();
        add(x, 3, 1, 0, FLOW, 0, 0);
        due("mended: broken", x.deploy(), 1);
        due("mended: still broken", x.deploy(), 1);
        due("mended: not deployed", x.message(0, 0, 0), -1);
        add(x, 4, 3, 0, EMPTY, 0, 0);
        due("mended: right", x.deploy(), 0);
        due("mended: already deployed", x.deploy(), -1);
        due("mended: already deployed, again", x.deploy(), -1);
        due("mended: deployed", x.message(0, 0, 0), 0);
    }

    private static void leastNumber() {
        ScopeRunner x = new ScopeRunner();
        add(x, 0, -1, 0, SCOPE, 0, 0);
        add(x, 1, 0, 0, FLOW, 0, 0);
        add(x, 2, 1, 0, RETHROW, 0, 0);
        add(x, 3, 0, 1, SCOPE, 0, 0);
        x.link(1, 2, -1, 0);
        due("least: 1 before 2, 3, 5 and 7", x.deploy(), 1);
        add(x, 4, 3, 0, EMPTY, 0, 0);
        due("least: 2 before 3, 5 and 7", x.deploy(), 2);
        due("least: nothing is deployed", x.message(0, 0, 0), -1);
        ScopeRunner y = new ScopeRunner();
        add(y, 0, -1, 0, SCOPE, 0, 0);
        add(y, 1, 0, 0, FLOW, 0, 0);
        add(y, 2, 1, 0, EMPTY, 0, 0);
        add(y, 3, 1, 0, EMPTY, 0, 0);
        y.link(2, 3, -1, 0);
        due("least: 7 alone", y.deploy(), 7);
        y.link(3, 2, -1, 0);
        due("least: 6 before 7", y.deploy(), 6);
        y.link(1, 2, -1, 0);
        due("least: 5 before 6", y.deploy(), 5);
        add(y, 4, 0, 2, COMPENSATE, 3, 0);
        due("least: 4 before 5", y.deploy(), 4);
        add(y, 5, 1, 0, COMPENSATE, 0, 0);
        due("least: 3 before 4", y.deploy(), 3);
    }
}
