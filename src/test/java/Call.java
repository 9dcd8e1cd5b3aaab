import java.util.ArrayList;
import java.util.List;
import java.util.function.ToLongFunction;

/** One call with its arguments: its name in what a test prints, what it answers when it is refused, and how it is made. */
record Call(String name, long refusal, ToLongFunction<ScopeRunner> how) {
    private static Call of(String method, long refusal, ToLongFunction<ScopeRunner> how, int... arguments) {
        List<String> told = new ArrayList<>();
        for (int argument : arguments) {
            told.add(argument == Case.LOW ? "LOW" : argument == Case.HIGH ? "HIGH" : "" + argument);
        }
        return new Call(method + "(" + String.join(", ", told) + ")", refusal, how);
    }

    private static long number(boolean answer) {
        return answer ? 1 : 0;
    }

    long on(ScopeRunner x) {
        return how.applyAsLong(x);
    }

    static Call add(int parent, int role, int kind, int p, int q) {
        return of("add", -1, x -> x.add(parent, role, kind, p, q), parent, role, kind, p, q);
    }

    static Call join(int activity, int mode) {
        return of("join", 0, x -> number(x.join(activity, mode)), activity, mode);
    }

    static Call link(int source, int target, int variable, int bound) {
        return of("link", -1, x -> x.link(source, target, variable, bound), source, target, variable, bound);
    }

    static Call deploy() {
        return of("deploy", -1, ScopeRunner::deploy);
    }

    static Call message(int operation, int key, int value) {
        return of("message", -1, x -> x.message(operation, key, value), operation, key, value);
    }

    static Call run(int instance, int n) {
        return of("run", 0, x -> x.run(instance, n), instance, n);
    }

    static Call answer(int instance, int activity, int fault, int value) {
        return of("answer", 0, x -> number(x.answer(instance, activity, fault, value)), instance, activity, fault, value);
    }

    static Call terminate(int instance) {
        return of("terminate", 0, x -> number(x.terminate(instance)), instance);
    }

    static Call state(int instance) {
        return of("state", -1, x -> x.state(instance), instance);
    }

    static Call status(int instance, int activity) {
        return of("status", -1, x -> x.status(instance, activity), instance, activity);
    }

    static Call variable(int instance, int k) {
        return of("variable", 0, x -> x.variable(instance, k), instance, k);
    }

    static Call own(int instance, int scope) {
        return of("own", 0, x -> x.own(instance, scope), instance, scope);
    }

    static Call linkState(int instance, int link) {
        return of("linkState", -1, x -> x.linkState(instance, link), instance, link);
    }

    static Call kept(int instance, int scope) {
        return of("kept", -1, x -> x.kept(instance, scope), instance, scope);
    }

    static Call events(int instance) {
        return of("events", -1, x -> x.events(instance), instance);
    }

    static Call event(int instance, int k) {
        return of("event", -1, x -> x.event(instance, k), instance, k);
    }

    static Call next(int instance) {
        return of("next", -1, x -> x.next(instance), instance);
    }
}
