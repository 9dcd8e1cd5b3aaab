/** Promise 5: deploy and its rules. */
public final class RulesTest extends Case {
    public static void main(String[] args) {
        rule1();
        rule2();
        rule3();
        rule4Flows();
        rule4Scopes();
        rule5Ends();
        rule5Between();
        rule6();
        rule7();
        leastNumber();
        end("RulesTest");
    }

    private static void rule1() {
        for (int kind = SEQUENCE; kind <= SCOPE; kind++) {
            for (int children = 0; children <= 3; children++) {
                ScopeRunner x = process();
                add(x, 3, 1, 0, kind, 0, 0);
                for (int i = 0; i < children; i++) {
                    add(x, 4 + i, 3, 0, EMPTY, 0, 0);
                }
                boolean one = kind == WHILE || kind == SCOPE;
                boolean right = children >= 1 && (children == 1 || !one) && (children < 3 || kind != IF);
                due("rule 1: kind " + kind + " with " + children, x.deploy(), right ? 0 : 1);
            }
        }
        ScopeRunner x = process();
        add(x, 3, 0, 0, EMPTY, 0, 0);
        due("rule 1: a root with two children", x.deploy(), 1);
        ScopeRunner y = process();
        add(y, 3, 1, 0, SCOPE, 0, 0);
        add(y, 4, 3, 1, EMPTY, 0, 0);
        add(y, 5, 3, 2, EMPTY, 0, 0);
        due("rule 1: handlers are no children", y.deploy(), 1);
        add(y, 6, 3, 0, EMPTY, 0, 0);
        due("rule 1: mended", y.deploy(), 0);
    }

    private static void rule2() {
        for (int role = 1; role <= 2; role++) {
            ScopeRunner x = process();
            add(x, 3, 0, role, SCOPE, 0, 0);
            add(x, 4, 3, 0, EMPTY, 0, 0);
            due("rule 2: a scope is the handler, role " + role, x.deploy(), 2);
            ScopeRunner y = process();
            add(y, 3, 0, role, SEQUENCE, 0, 0);
            add(y, 4, 3, 0, IF, 0, 0);
            add(y, 5, 4, 0, SCOPE, 0, 0);
            add(y, 6, 5, 0, EMPTY, 0, 0);
            due("rule 2: a scope is below the handler, role " + role, y.deploy(), 2);
        }
    }

    private static void rule3() {
        for (int kind = RETHROW; kind <= COMPENSATE; kind += COMPENSATE - RETHROW) {
            ScopeRunner x = process();
            add(x, 3, 1, 0, kind, 0, 0);
            due("rule 3: kind " + kind + " in the body", x.deploy(), 3);
            ScopeRunner y = process();
            add(y, 3, 0, 1, SEQUENCE, 0, 0);
            add(y, 4, 3, 0, kind, 0, 0);
            due("rule 3: kind " + kind + " in a fault handler", y.deploy(), 0);
            ScopeRunner z = process();
            add(z, 3, 0, 2, kind, 0, 0);
            due("rule 3: kind " + kind + " as an undo handler", z.deploy(), kind == RETHROW ? 3 : 0);
        }
    }

    private static void rule4Flows() {
        ScopeRunner x = process();
        add(x, 3, 0, 1, FLOW, 0, 0);
        add(x, 4, 3, 0, COMPENSATE, 0, 0);
        due("rule 4: the handler is a flow", x.deploy(), 4);
        ScopeRunner y = process();
        add(y, 3, 0, 2, SEQUENCE, 0, 0);
        add(y, 4, 3, 0, FLOW, 0, 0);
        add(y, 5, 4, 0, SEQUENCE, 0, 0);
        add(y, 6, 5, 0, COMPENSATE, 0, 0);
        due("rule 4: a flow far above", y.deploy(), 4);
        ScopeRunner z = process();
        add(z, 3, 0, 1, SEQUENCE, 0, 0);
        add(z, 4, 3, 0, FLOW, 0, 0);
        add(z, 5, 4, 0, EMPTY, 0, 0);
        add(z, 6, 3, 0, COMPENSATE, 0, 0);
        due("rule 4: a flow beside", z.deploy(), 0);
        ScopeRunner w = process();
        add(w, 3, 1, 0, FLOW, 0, 0);
        add(w, 4, 3, 0, SCOPE, 0, 0);
        add(w, 5, 4, 0, EMPTY, 0, 0);
        add(w, 6, 4, 1, COMPENSATE, 0, 0);
        due("rule 4: a flow above that lies in no handler", w.deploy(), 0);
    }

    /** Scope 4 in scope 3 in the root, scope 6 in the root; each of them, and some others, in a handler's p. */
    private static void rule4Scopes() {
        for (int p = 0; p < 24; p++) {
            due("rule 4: p " + p + " in the root's handler", withCompensate(0, p).deploy(), p == 0 || p == 3 || p == 6 ? 0 : 4);
            due("rule 4: p " + p + " in 3's handler", withCompensate(3, p).deploy(), p == 0 || p == 4 ? 0 : 4);
            due("rule 4: p " + p + " in 4's handler", withCompensate(4, p).deploy(), p == 0 ? 0 : 4);
        }
    }

    private static ScopeRunner withCompensate(int scope, int p) {
        ScopeRunner x = process();
        add(x, 3, 1, 0, SCOPE, 0, 0);
        add(x, 4, 3, 0, SCOPE, 0, 0);
        add(x, 5, 4, 0, EMPTY, 0, 0);
        add(x, 6, 1, 0, SCOPE, 0, 0);
        add(x, 7, 6, 0, EMPTY, 0, 0);
        add(x, 8, scope, 2, SEQUENCE, 0, 0);
        add(x, 9, 8, 0, COMPENSATE, p, 0);
        return x;
    }

    /** FLOW 3 with EMPTY 4 and SEQUENCE 5 of EMPTY 6 and 7; EMPTY 8 behind the flow. */
    private static ScopeRunner withFlow() {
        ScopeRunner x = process();
        add(x, 3, 1, 0, FLOW, 0, 0);
        add(x, 4, 3, 0, EMPTY, 0, 0);
        add(x, 5, 3, 0, SEQUENCE, 0, 0);
        add(x, 6, 5, 0, EMPTY, 0, 0);
        add(x, 7, 5, 0, EMPTY, 0, 0);
        add(x, 8, 1, 0, EMPTY, 0, 0);
        return x;
    }

    private static void linked(String what, int source, int target, int want) {
        ScopeRunner x = withFlow();
        due(what + ": link", x.link(source, target, -1, 0), 0);
        due(what, x.deploy(), want);
    }

    private static void rule5Ends() {
        linked("rule 5: to itself", 4, 4, 5);
        linked("rule 5: to one below", 5, 6, 5);
        linked("rule 5: to one above", 6, 5, 5);
        linked("rule 5: from the flow", 3, 4, 5);
        linked("rule 5: from the root", 0, 4, 5);
        linked("rule 5: to the root", 4, 0, 5);
        linked("rule 5: in a sequence", 6, 7, 5);
        linked("rule 5: out of the flow", 4, 8, 5);
        linked("rule 5: into the flow", 2, 4, 5);
        linked("rule 5: between children", 4, 5, 0);
        linked("rule 5: back between children", 5, 4, 0);
        linked("rule 5: from one further below", 7, 4, 0);
        linked("rule 5: to one further below", 4, 7, 0);
    }

    private static void rule5Between() {
        between("a while between", WHILE, 0, 5);
        between("a sequence between", SEQUENCE, 0, 0);
        between("a scope between", SCOPE, 0, 0);
        between("an if between", IF, 0, 0);
        between("a flow between", FLOW, 0, 0);
        between("a fault handler", SCOPE, 1, 5);
        between("an undo handler", SCOPE, 2, 5);
        whileIsAnEnd();
        handlerIsBetween();
        flowIsTheHandler();
        flowIsInAWhile();
    }

    /** FLOW 3 with 4 of the kind, EMPTY 5 below it in the role, EMPTY 6; once from 5 to 6 and once back. */
    private static void between(String what, int kind, int role, int want) {
        for (int turn = 0; turn < 2; turn++) {
            ScopeRunner x = process();
            add(x, 3, 1, 0, FLOW, 0, 0);
            add(x, 4, 3, 0, kind, 0, 0);
            add(x, 5, 4, role, EMPTY, 0, 0);
            add(x, 6, 3, 0, EMPTY, 0, 0);
            if (role != 0) {
                add(x, 7, 4, 0, EMPTY, 0, 0);
            }
            x.link(turn == 0 ? 5 : 6, turn == 0 ? 6 : 5, -1, 0);
            due("rule 5: " + what + ", turn " + turn, x.deploy(), want);
        }
    }

    private static void whileIsAnEnd() {
        ScopeRunner x = process();
        add(x, 3, 1, 0, FLOW, 0, 0);
        add(x, 4, 3, 0, WHILE, 0, 0);
        add(x, 5, 4, 0, EMPTY, 0, 0);
        add(x, 6, 3, 0, WHILE, 0, 0);
        add(x, 7, 6, 0, EMPTY, 0, 0);
        x.link(4, 6, -1, 0);
        due("rule 5: a while to a while", x.deploy(), 0);
    }

    private static void handlerIsBetween() {
        ScopeRunner x = process();
        add(x, 3, 1, 0, FLOW, 0, 0);
        add(x, 4, 3, 0, SCOPE, 0, 0);
        add(x, 5, 4, 0, EMPTY, 0, 0);
        add(x, 6, 4, 1, SEQUENCE, 0, 0);
        add(x, 7, 6, 0, EMPTY, 0, 0);
        add(x, 8, 3, 0, EMPTY, 0, 0);
        x.link(8, 7, -1, 0);
        due("rule 5: a handler between", x.deploy(), 5);
    }

    private static void flowIsTheHandler() {
        ScopeRunner x = process();
        add(x, 3, 0, 1, FLOW, 0, 0);
        add(x, 4, 3, 0, EMPTY, 0, 0);
        add(x, 5, 3, 0, EMPTY, 0, 0);
        x.link(4, 5, -1, 0);
        due("rule 5: the flow is a handler", x.deploy(), 0);
    }

    private static void flowIsInAWhile() {
        ScopeRunner x = process();
        add(x, 3, 1, 0, WHILE, 0, 0);
        add(x, 4, 3, 0, FLOW, 0, 0);
        add(x, 5, 4, 0, EMPTY, 0, 0);
        add(x, 6, 4, 0, EMPTY, 0, 0);
        x.link(6, 5, -1, 0);
        due("rule 5: the flow is in a while", x.deploy(), 0);
    }

    private static void rule6() {
        ScopeRunner x = withFlow();
        x.link(4, 5, -1, 0);
        x.link(5, 4, -1, 0);
        due("rule 6: there and back", x.deploy(), 6);
        ScopeRunner y = withFlow();
        y.link(7, 4, -1, 0);
        y.link(4, 6, -1, 0);
        due("rule 6: against the sequence", y.deploy(), 6);
        ScopeRunner z = withFlow();
        z.link(6, 4, -1, 0);
        z.link(4, 7, -1, 0);
        due("rule 6: along the sequence", z.deploy(), 0);
        ScopeRunner w = withFlow();
        w.link(6, 4, -1, 0);
        w.link(4, 5, -1, 0);
        due("rule 6: a part's end before the whole's beginning", w.deploy(), 6);
        ScopeRunner v = withFlow();
        v.link(5, 4, -1, 0);
        v.link(4, 7, -1, 0);
        due("rule 6: the whole's end before a part's beginning", v.deploy(), 6);
        rule6InAFlow();
        rule6AroundThree();
    }

    private static void rule6InAFlow() {
        ScopeRunner x = process();
        add(x, 3, 1, 0, FLOW, 0, 0);
        add(x, 4, 3, 0, EMPTY, 0, 0);
        add(x, 5, 3, 0, FLOW, 0, 0);
        add(x, 6, 5, 0, EMPTY, 0, 0);
        add(x, 7, 5, 0, EMPTY, 0, 0);
        x.link(7, 4, -1, 0);
        x.link(4, 6, -1, 0);
        due("rule 6: children of a flow have no order", x.deploy(), 0);
    }

    private static void rule6AroundThree() {
        ScopeRunner x = process();
        add(x, 3, 1, 0, FLOW, 0, 0);
        add(x, 4, 3, 0, EMPTY, 0, 0);
        add(x, 5, 3, 0, EMPTY, 0, 0);
        add(x, 6, 3, 0, EMPTY, 0, 0);
        x.link(4, 5, -1, 0);
        x.link(5, 6, -1, 0);
        x.link(6, 4, -1, 0);
        due("rule 6: around three", x.deploy(), 6);
    }

    private static void rule7() {
        for (int kind = EMPTY; kind <= INVOKE; kind++) {
            ScopeRunner x = new ScopeRunner();
            add(x, 0, -1, 0, SCOPE, 0, 0);
            add(x, 1, 0, 0, kind, 1, 1);
            int want = kind == RETHROW ? 3 : kind == RECEIVE ? 0 : 7;
            due("rule 7: the body is of kind " + kind, x.deploy(), want);
        }
        ScopeRunner x = new ScopeRunner();
        add(x, 0, -1, 0, SCOPE, 0, 0);
        add(x, 1, 0, 0, FLOW, 0, 0);
        add(x, 2, 1, 0, RECEIVE, 0, 0);
        due("rule 7: not through a flow", x.deploy(), 7);
        ScopeRunner y = new ScopeRunner();
        add(y, 0, -1, 0, SCOPE, 0, 0);
        add(y, 1, 0, 0, SEQUENCE, 0, 0);
        add(y, 2, 1, 0, SCOPE, 0, 0);
        add(y, 3, 2, 0, RECEIVE, 0, 0);
        due("rule 7: not through a scope", y.deploy(), 7);
        ScopeRunner z = new ScopeRunner();
        add(z, 0, -1, 0, SCOPE, 0, 0);
        add(z, 1, 0, 0, SEQUENCE, 0, 0);
        add(z, 2, 1, 0, SEQUENCE, 0, 0);
        add(z, 3, 1, 0, EMPTY, 0, 0);
        add(z, 4, 2, 0, SEQUENCE, 0, 0);
        add(z, 5, 4, 0, RECEIVE, 6, 0);
        due("rule 7: through three sequences", z.deploy(), 0);
        due("START's operation", z.message(6, 0, 0), 0);
    }

    private static void leastNumber() {
        ScopeRunner x = new ScopeRunner();
        add(x, 0, -1, 0, SCOPE, 0, 0);
        add(x, 1, 0, 0, FLOW, 0, 0);
        add(x, 2, 1, 0, RETHROW, 0, 0);
        add(x, 3, 0, 1, SCOPE, 0, 0);
        x.link(1, 2, -1, 0);
        due("least: 1 before 2, 3, 5 and 7", x.deploy(), 1);
        add(x, 4, 3, 0, EMPTY, 0, 0);
        due("least: 2 before 3, 5 and 7", x.deploy(), 2);
        due("least: nothing is deployed", x.message(0, 0, 0), -1);
        ScopeRunner y = new ScopeRunner();
        add(y, 0, -1, 0, SCOPE, 0, 0);
        add(y, 1, 0, 0, FLOW, 0, 0);
        add(y, 2, 1, 0, EMPTY, 0, 0);
        add(y, 3, 1, 0, EMPTY, 0, 0);
        y.link(2, 3, -1, 0);
        due("least: 7 alone", y.deploy(), 7);
        y.link(3, 2, -1, 0);
        due("least: 6 before 7", y.deploy(), 6);
        y.link(1, 2, -1, 0);
        due("least: 5 before 6", y.deploy(), 5);
        add(y, 4, 0, 2, COMPENSATE, 3, 0);
        due("least: 4 before 5", y.deploy(), 4);
        add(y, 5, 1, 0, COMPENSATE, 0, 0);
        due("least: 3 before 4", y.deploy(), 3);
    }
}
