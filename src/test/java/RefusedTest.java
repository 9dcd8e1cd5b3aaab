/** "A call that is refused changes nothing": promises 2 to 18, each refused call at the points where it is refused. */
public final class RefusedTest extends Case {
    private static final int[] NO_INSTANCE = {-1, 8, LOW, HIGH};
    private static final int[] NO_ACTIVITY = {-1, 24, 32, LOW, HIGH};

    public static void main(String[] args) {
        emptyObject();
        oneInstanceToItsFault();
        oneInstanceToItsEnd();
        terminatedInstance();
        everyKindAsAParent();
        fullOfActivities();
        fullOfLinks();
        fullOfInstances();
        brokenRules();
        end("RefusedTest");
    }

    // ---- calls that are refused wherever they stand

    private static void refusedAlways(Story story) {
        refusedAdds(story);
        refusedJoinsAndLinks(story);
        refusedOnInstances(story);
        refusedQuestions(story);
        story.askedFromHere(Call.state(0), Call.status(0, 0), Call.variable(0, 0), Call.own(0, 0), Call.linkState(0, 0),
            Call.kept(0, 0), Call.events(0), Call.event(0, 0), Call.next(0), Call.next(1));
    }

    private static void refusedAdds(Story story) {
        for (int parent : new int[] {-2, 24, LOW, HIGH}) {
            story.refusedFromHere(Call.add(parent, 0, SCOPE, 0, 0), Call.add(parent, 0, EMPTY, 0, 0));
        }
        for (int role : new int[] {-1, 3, LOW, HIGH}) {
            story.refusedFromHere(Call.add(-1, role, SCOPE, 0, 0), Call.add(0, role, EMPTY, 0, 0));
        }
        for (int kind : new int[] {-1, 13, LOW, HIGH}) {
            story.refusedFromHere(Call.add(-1, 0, kind, 0, 0), Call.add(0, 0, kind, 0, 0));
        }
        for (int kind = EMPTY; kind < SCOPE; kind++) {
            story.refusedFromHere(Call.add(-1, 0, kind, 1, 1));
        }
        story.refusedFromHere(Call.add(-1, 1, SCOPE, 0, 0), Call.add(-1, 2, SCOPE, 0, 0));
        for (int[] numbers : PlanTest.WRONG_NUMBERS) {
            int kind = numbers[0];
            story.refusedFromHere(Call.add(0, 0, kind, numbers[1], numbers[2]), Call.add(0, 1, kind, numbers[1], numbers[2]),
                Call.add(-1, 0, kind, numbers[1], numbers[2]));
        }
    }

    private static void refusedJoinsAndLinks(Story story) {
        for (int a : NO_ACTIVITY) {
            story.refusedFromHere(Call.join(a, 1), Call.link(a, 0, -1, 0), Call.link(0, a, -1, 0));
        }
        for (int mode : new int[] {-1, 4, LOW, HIGH}) {
            story.refusedFromHere(Call.join(0, mode), Call.join(2, mode));
        }
        for (int variable : new int[] {-2, 5, LOW, HIGH}) {
            story.refusedFromHere(Call.link(0, 1, variable, 0), Call.link(1, 2, variable, 0));
        }
    }

    private static void refusedOnInstances(Story story) {
        for (int i : NO_INSTANCE) {
            story.refusedFromHere(Call.run(i, 1), Call.answer(i, 4, 0, 0), Call.terminate(i));
        }
        for (int n : new int[] {0, -1, 51, LOW, HIGH}) {
            story.refusedFromHere(Call.run(0, n));
        }
        for (int a : NO_ACTIVITY) {
            story.refusedFromHere(Call.answer(0, a, 0, 0));
        }
        for (int fault : new int[] {-1, 100, 101, 102, LOW, HIGH}) {
            for (int a = 0; a < 10; a++) {
                story.refusedFromHere(Call.answer(0, a, fault, 0));
            }
        }
        for (int operation : new int[] {-1, 8, LOW, HIGH}) {
            story.refusedFromHere(Call.message(operation, 1, 77), Call.message(operation, 2, 77));
        }
    }

    private static void refusedQuestions(Story story) {
        for (int i : NO_INSTANCE) {
            story.refusedFromHere(Call.state(i), Call.status(i, 0), Call.variable(i, 0), Call.own(i, 0),
                Call.linkState(i, 0), Call.kept(i, 0), Call.events(i), Call.event(i, 0), Call.next(i));
        }
        for (int a : NO_ACTIVITY) {
            story.refusedFromHere(Call.status(0, a), Call.own(0, a), Call.kept(0, a));
        }
        for (int k : new int[] {-1, 4, LOW, HIGH}) {
            story.refusedFromHere(Call.variable(0, k));
        }
        for (int l : new int[] {-1, 16, LOW, HIGH}) {
            story.refusedFromHere(Call.linkState(0, l));
        }
        for (int k : new int[] {-1, 32, LOW, HIGH}) {
            story.refusedFromHere(Call.event(0, k));
        }
    }

    /** Calls on an instance that is not there, with numbers that are right otherwise. */
    private static void refusedWithout(Story story, int i) {
        story.refused(Call.run(i, 1), Call.run(i, 50), Call.answer(i, 0, 0, 0), Call.answer(i, 4, 1, 0), Call.terminate(i),
            Call.state(i), Call.status(i, 0), Call.variable(i, 0), Call.own(i, 0), Call.linkState(i, 0), Call.kept(i, 0),
            Call.events(i), Call.event(i, 0), Call.next(i));
    }

    // ---- stories

    private static void emptyObject() {
        Story story = new Story("empty");
        refusedAlways(story);
        refusedWithout(story, 0);
        story.refused(Call.add(0, 0, EMPTY, 0, 0), Call.add(0, 0, SCOPE, 0, 0), Call.add(0, 1, EMPTY, 0, 0),
            Call.join(0, 0), Call.link(0, 0, -1, 0), Call.message(0, 0, 0));
        story.unchanged(1, Call.deploy());
        story.then(0, Call.add(-1, 0, SCOPE, 0, 0));
        story.refused(Call.add(-1, 0, SCOPE, 0, 0), Call.add(1, 0, EMPTY, 0, 0), Call.join(1, 0), Call.link(0, 1, -1, 0),
            Call.link(1, 0, -1, 0), Call.message(0, 0, 0));
        story.unchanged(1, Call.deploy());
        story.then(1, Call.add(0, 0, RECEIVE, 0, 4));
        story.refused(Call.message(0, 0, 0));
        story.then(0, Call.deploy());
        story.then(0, Call.message(0, 0, 6)).then(2, Call.run(0, 50)).then(6, Call.own(0, 0));
        story.check();
    }

    /**
     * FLOW 3 of INVOKE 4 and, linked behind it, RECEIVE 5; then scope 6 with ADD 7 and undo handler INVOKE 8; then
     * INVOKE 9; the root's fault handler is SEQUENCE 10 of COMPENSATE 11 and RETHROW 12.
     */
    private static Story build(String title) {
        Story story = new Story(title);
        refusedAlways(story);
        story.then(0, Call.add(-1, 0, SCOPE, 0, 0));
        story.then(1, Call.add(0, 0, SEQUENCE, 0, 0));
        story.refused(Call.add(-1, 0, SCOPE, 0, 0), Call.add(1, 1, EMPTY, 0, 0), Call.add(1, 2, EMPTY, 0, 0), Call.add(2, 0, EMPTY, 0, 0));
        story.unchanged(1, Call.deploy());
        story.then(2, Call.add(1, 0, RECEIVE, 0, 0));
        story.refused(Call.add(2, 0, EMPTY, 0, 0), Call.add(2, 1, EMPTY, 0, 0), Call.message(0, 1, 1), Call.run(0, 1));
        story.then(3, Call.add(1, 0, FLOW, 0, 0));
        story.unchanged(1, Call.deploy());
        story.then(4, Call.add(3, 0, INVOKE, 0, 1));
        story.then(5, Call.add(3, 0, RECEIVE, 1, 2));
        story.refused(Call.join(6, 0), Call.link(4, 6, -1, 0), Call.link(6, 4, -1, 0));
        story.then(1, Call.join(5, 1));
        story.refused(Call.join(5, 4), Call.join(5, -1));
        story.then(0, Call.link(4, 5, 1, 10));
        story.refused(Call.link(4, 5, 1, 10), Call.link(4, 5, -1, 0), Call.link(4, 5, 0, 0));
        story.then(6, Call.add(1, 0, SCOPE, 7, 0));
        story.then(7, Call.add(6, 0, ADD, 4, 5));
        story.then(8, Call.add(6, 2, INVOKE, 0, 3));
        story.refused(Call.add(6, 2, EMPTY, 0, 0));
        story.then(9, Call.add(1, 0, INVOKE, 0, 0));
        story.then(10, Call.add(0, 1, SEQUENCE, 0, 0));
        story.refused(Call.add(0, 1, EMPTY, 0, 0));
        story.then(11, Call.add(10, 0, COMPENSATE, 6, 0));
        story.then(12, Call.add(10, 0, RETHROW, 0, 0));
        story.refused(Call.message(0, 1, 1));
        story.then(0, Call.deploy());
        story.refusedFromHere(Call.add(1, 0, EMPTY, 0, 0), Call.add(6, 1, EMPTY, 0, 0), Call.add(0, 2, EMPTY, 0, 0), Call.join(5, 0),
            Call.join(5, 3), Call.join(0, 0), Call.link(5, 4, -1, 0), Call.link(3, 6, 0, 0), Call.deploy());
        return story;
    }

    /** The instance with key 1 is made and goes on until INVOKE 9 waits; nothing else but what is told here is taken. */
    private static void toTheLastInvoke(Story story) {
        refusedWithout(story, 0);
        story.refused(Call.message(1, 1, 5), Call.message(7, 1, 5));
        story.then(0, Call.message(0, 1, 3));
        refusedWithout(story, 1);
        story.refused(Call.message(0, 1, 9), Call.message(1, 1, 9), Call.message(1, 2, 9), Call.event(0, 0));
        refusedAnswers(story, 0, 4, 5, 9);
        story.then(5, Call.run(0, 50));
        story.refused(Call.message(1, 1, 9), Call.run(0, 1), Call.run(0, 50), Call.event(0, 6), Call.linkState(0, 1));
        refusedAnswers(story, 0, 3, 5, 8, 9);
        story.then(1, Call.answer(0, 4, 0, 9));
        refusedAnswers(story, 4, 5, 9);
        story.then(1, Call.run(0, 50));
        story.refused(Call.message(0, 1, 9), Call.message(2, 1, 9), Call.message(1, 2, 9), Call.run(0, 1));
        refusedAnswers(story, 4, 5, 9);
        story.then(0, Call.message(1, 1, 8));
        story.refused(Call.message(1, 1, 9));
        story.then(3, Call.run(0, 50));
        story.refused(Call.message(0, 1, 9), Call.message(1, 1, 9), Call.run(0, 1));
        refusedAnswers(story, 4, 5, 6, 8);
    }

    private static void refusedAnswers(Story story, int... activities) {
        for (int a : activities) {
            story.refused(Call.answer(0, a, 0, 70), Call.answer(0, a, 1, 70), Call.answer(0, a, 99, 70));
        }
    }

    private static void oneInstanceToItsFault() {
        Story story = build("to its fault");
        toTheLastInvoke(story);
        story.then(1, Call.answer(0, 9, 99, 5));
        refusedAnswers(story, 4, 8, 9, 11);
        story.then(4, Call.run(0, 50));
        story.refused(Call.run(0, 1), Call.message(0, 1, 9));
        refusedAnswers(story, 4, 9, 11);
        story.then(1, Call.answer(0, 8, 0, 44));
        story.then(2, Call.run(0, 50));
        refusedWhenEnded(story);
        story.then(109, Call.state(0));
        story.then(44, Call.variable(0, 3));
        story.check();
    }

    private static void oneInstanceToItsEnd() {
        Story story = build("to its end");
        toTheLastInvoke(story);
        story.then(1, Call.answer(0, 9, 0, 5));
        refusedWhenEnded(story);
        story.then(1, Call.state(0));
        story.then(1, Call.message(0, 1, 4));
        story.check();
    }

    private static void terminatedInstance() {
        Story story = build("terminated");
        toTheLastInvoke(story);
        story.then(1, Call.terminate(0));
        refusedWhenEnded(story);
        story.then(2, Call.state(0));
        story.then(1, Call.message(0, 1, 4));
        story.then(1, Call.run(1, 1));
        story.check();
    }

    private static void refusedWhenEnded(Story story) {
        story.refused(Call.terminate(0), Call.run(0, 1), Call.run(0, 50), Call.next(0), Call.message(1, 1, 9));
        refusedAnswers(story, 0, 4, 5, 8, 9, 11);
    }

    /** Activities 2 to 14 are of the kinds 0 to 12. */
    private static void everyKindAsAParent() {
        Story story = new Story("every kind");
        story.then(0, Call.add(-1, 0, SCOPE, 0, 0));
        story.then(1, Call.add(0, 0, SEQUENCE, 0, 0));
        for (int kind = EMPTY; kind <= SCOPE; kind++) {
            story.then(2 + kind, Call.add(1, 0, kind, 1, 1));
        }
        for (int kind = EMPTY; kind <= SCOPE; kind++) {
            for (int role = kind < SEQUENCE ? 0 : 1; role <= 2 && kind < SCOPE; role++) {
                story.refusedFromHere(Call.add(2 + kind, role, EMPTY, 0, 0), Call.add(2 + kind, role, SCOPE, 0, 0));
            }
        }
        story.then(15, Call.add(14, 1, EMPTY, 0, 0));
        story.refusedFromHere(Call.add(14, 1, EMPTY, 0, 0), Call.add(14, 1, SEQUENCE, 0, 0));
        story.then(16, Call.add(14, 2, EMPTY, 0, 0));
        story.refusedFromHere(Call.add(14, 2, EMPTY, 0, 0), Call.add(14, 2, SEQUENCE, 0, 0));
        for (int kind = SEQUENCE; kind <= SCOPE; kind++) {
            story.then(9 + kind, Call.add(2 + kind, 0, EMPTY, 0, 0));
        }
        story.then(22, Call.add(0, 1, EMPTY, 0, 0));
        story.then(3, Call.deploy());
        story.check();
    }

    private static void fullOfActivities() {
        Story story = new Story("24 activities");
        story.then(0, Call.add(-1, 0, SCOPE, 0, 0)).then(1, Call.add(0, 0, SEQUENCE, 0, 0)).then(2, Call.add(1, 0, RECEIVE, 7, 3));
        story.then(3, Call.add(1, 0, SCOPE, 0, 0)).then(4, Call.add(3, 0, EMPTY, 0, 0));
        for (int a = 5; a < 24; a++) {
            story.then(a, Call.add(1, 0, ADD, a % 3, a));
        }
        story.refusedFromHere(Call.add(1, 0, EMPTY, 0, 0), Call.add(3, 1, EMPTY, 0, 0), Call.add(3, 2, EMPTY, 0, 0), Call.add(0, 1, EMPTY, 0, 0),
            Call.add(0, 0, EMPTY, 0, 0), Call.add(1, 0, SCOPE, 0, 0), Call.add(23, 0, EMPTY, 0, 0), Call.join(24, 0),
            Call.link(24, 23, -1, 0), Call.link(23, 24, -1, 0));
        story.then(1, Call.join(23, 3));
        story.then(0, Call.deploy()).then(0, Call.message(7, 0, 1)).then(24, Call.run(0, 50)).then(1, Call.state(0));
        story.then(-1, Call.status(0, 24)).then(IS_DONE, Call.status(0, 23));
        story.check();
    }

    /** EMPTY 4 to 20 in FLOW 3; links from each to the next, 16 in all. */
    private static void fullOfLinks() {
        Story story = new Story("16 links");
        story.then(0, Call.add(-1, 0, SCOPE, 0, 0)).then(1, Call.add(0, 0, SEQUENCE, 0, 0)).then(2, Call.add(1, 0, RECEIVE, 7, 3));
        story.then(3, Call.add(1, 0, FLOW, 0, 0));
        for (int a = 4; a <= 21; a++) {
            story.then(a, Call.add(3, 0, EMPTY, 0, 0));
        }
        for (int l = 0; l < 16; l++) {
            story.then(l, Call.link(4 + l, 5 + l, -1, 0));
            story.refused(Call.link(4 + l, 5 + l, -1, 0), Call.link(4 + l, 5 + l, 0, 1), Call.link(4, 5, -1, 0));
        }
        story.refusedFromHere(Call.link(20, 21, -1, 0), Call.link(21, 4, -1, 0), Call.link(4, 6, -1, 0), Call.link(4, 4, -1, 0),
            Call.link(5, 4, 0, 0));
        story.then(0, Call.deploy()).then(0, Call.message(7, 0, 1)).then(22, Call.run(0, 50)).then(1, Call.state(0));
        story.then(TRUE, Call.linkState(0, 15)).then(-1, Call.linkState(0, 16));
        story.check();
    }

    private static void fullOfInstances() {
        Story story = new Story("8 instances");
        story.then(0, Call.add(-1, 0, SCOPE, 0, 0)).then(1, Call.add(0, 0, SEQUENCE, 0, 0)).then(2, Call.add(1, 0, RECEIVE, 7, 3));
        story.then(3, Call.add(1, 0, RECEIVE, 0, 0)).then(0, Call.deploy());
        for (int i = 0; i < 8; i++) {
            story.refused(Call.run(i, 1), Call.terminate(i), Call.answer(i, 3, 0, 0), Call.message(0, 10 + i, 1));
            story.then(i, Call.message(7, 10 + i, 100 + i));
            story.refused(Call.message(7, 10 + i, 200));
        }
        story.refusedFromHere(Call.message(7, 9, 200), Call.message(7, 18, 200), Call.message(7, LOW, 200), Call.message(7, HIGH, 200),
            Call.message(0, 18, 200), Call.message(7, 10, 200), Call.message(7, 17, 200));
        for (int i = 0; i < 8; i++) {
            story.then(4, Call.run(i, 50));
        }
        story.then(0, Call.message(0, 10, 5)).then(1, Call.terminate(7)).then(1, Call.state(0)).then(2, Call.state(7));
        story.refused(Call.message(0, 10, 5), Call.message(0, 17, 5));
        story.then(106, Call.variable(6, 3));
        story.check();
    }

    /** "The least number of one that is broken (nothing changes then)": each rule is broken once and mended. */
    private static void brokenRules() {
        Story story = new Story("broken rules");
        story.unchanged(1, Call.deploy());
        story.then(0, Call.add(-1, 0, SCOPE, 0, 0)).then(1, Call.add(0, 0, SEQUENCE, 0, 0)).then(2, Call.add(1, 0, RECEIVE, 0, 0));
        story.then(3, Call.add(1, 0, SCOPE, 0, 0));
        story.unchanged(1, Call.deploy()).refused(Call.message(0, 0, 0));
        story.then(4, Call.add(3, 0, FLOW, 0, 0)).then(5, Call.add(4, 0, ADD, 1, 1)).then(6, Call.add(4, 0, ADD, 2, 1));
        story.then(0, Call.link(6, 5, -1, 0));
        story.then(7, Call.add(3, 1, SEQUENCE, 0, 0));
        story.unchanged(1, Call.deploy()).refused(Call.message(0, 0, 0));
        story.then(8, Call.add(7, 0, EMPTY, 0, 0));
        story.then(0, Call.deploy()).then(0, Call.message(0, 0, 0)).then(7, Call.run(0, 50)).then(1, Call.state(0));
        story.check();
        for (int rule = 2; rule <= 7; rule++) {
            breaking(rule);
        }
    }

    /** What breaks these rules cannot be taken back, so the same number stays, however often it is asked. */
    private static void breaking(int rule) {
        Story story = new Story("rule " + rule);
        story.then(0, Call.add(-1, 0, SCOPE, 0, 0)).then(1, Call.add(0, 0, rule == 7 ? FLOW : SEQUENCE, 0, 0));
        story.then(2, Call.add(1, 0, RECEIVE, 0, 0)).then(3, Call.add(1, 0, FLOW, 0, 0));
        story.then(4, Call.add(3, 0, EMPTY, 0, 0)).then(5, Call.add(3, 0, EMPTY, 0, 0)).then(0, Call.link(4, 5, -1, 0));
        switch (rule) {
            case 2 -> story.then(6, Call.add(0, 1, SCOPE, 0, 0)).then(7, Call.add(6, 0, EMPTY, 0, 0));
            case 3 -> story.then(6, Call.add(0, 2, RETHROW, 0, 0));
            case 4 -> story.then(6, Call.add(0, 2, COMPENSATE, 5, 0));
            case 5 -> story.then(1, Call.link(2, 5, -1, 0));
            case 6 -> story.then(1, Call.link(5, 4, -1, 0));
            default -> story.then(1, Call.join(4, 0));
        }
        story.unchanged(rule, Call.deploy());
        story.refusedFromHere(Call.message(0, 0, 0), Call.run(0, 1), Call.state(0), Call.terminate(0));
        story.then(1, Call.join(5, 3));
        story.unchanged(rule, Call.deploy());
        story.then(rule, Call.deploy());
        story.then(rule, Call.deploy());
        story.check();
    }
}
