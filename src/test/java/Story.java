import java.util.ArrayList;
import java.util.List;

/**
 * A run of calls on one object, and calls that are refused at some points of it. Each refused call is tried in a run of
 * its own on a new object: it must answer as due there, and every later answer, and all that can be asked at the end,
 * must be what it is without that call.
 */
final class Story {
    /** The document promises nothing about an object after so many calls. */
    private static final int MOST_CALLS = 512;

    private record Part(Call call, long want) { }

    private record Refused(Call call, long want, boolean anyAnswer, int from, int to) { }

    private final String title;
    private final List<Part> parts = new ArrayList<>();
    private final List<Refused> refused = new ArrayList<>();
    private int used;

    Story(String title) {
        this.title = title;
    }

    /** The story goes on with a call. */
    Story then(long want, Call call) {
        parts.add(new Part(call, want));
        return this;
    }

    /** At this point the call is refused. */
    Story refused(Call... calls) {
        for (Call call : calls) {
            unchanged(call.refusal(), call);
        }
        return this;
    }

    /** At this point the call answers so and changes nothing. */
    Story unchanged(long want, Call call) {
        refused.add(new Refused(call, want, false, parts.size(), parts.size()));
        return this;
    }

    /** From this point to the end the call is refused. */
    Story refusedFromHere(Call... calls) {
        for (Call call : calls) {
            refused.add(new Refused(call, call.refusal(), false, parts.size(), Case.HIGH));
        }
        return this;
    }

    /** From this point to the end the call changes nothing, whatever it answers. */
    Story askedFromHere(Call... calls) {
        for (Call call : calls) {
            refused.add(new Refused(call, 0, true, parts.size(), Case.HIGH));
        }
        return this;
    }

    void check() {
        List<String> plain = tell(null, -1);
        for (Refused r : refused) {
            int last = Math.min(r.to, parts.size());
            for (int at = r.from; at <= last; at++) {
                same(plain, tell(r, at), r.call.name() + " before call " + at);
            }
        }
    }

    private void same(List<String> plain, List<String> got, String what) {
        for (int i = 0; i < Math.max(plain.size(), got.size()); i++) {
            String without = i < plain.size() ? plain.get(i) : "nothing";
            String with = i < got.size() ? got.get(i) : "nothing";
            if (!without.equals(with)) {
                Case.fail(title + ": after " + what + ": " + with + ", without it: " + without);
                return;
            }
        }
    }

    /** All answers of the story with the refused call at the given place, and what can be asked at the end. */
    private List<String> tell(Refused r, int at) {
        ScopeRunner x = new ScopeRunner();
        List<String> told = new ArrayList<>();
        used = 0;
        for (int i = 0; i <= parts.size(); i++) {
            if (i == at && r != null) {
                tryRefused(r, at, x);
            }
            if (i < parts.size()) {
                Part part = parts.get(i);
                long got = ask(part.call, x, told);
                if (r == null) {
                    Case.due(title + ": call " + i + ", " + part.call.name(), got, part.want);
                }
            }
        }
        tellAll(x, told);
        Case.due(title + ": calls are " + used + ", at most 512", used <= MOST_CALLS, true);
        return told;
    }

    private void tryRefused(Refused r, int at, ScopeRunner x) {
        long got = r.call.on(x);
        used++;
        if (!r.anyAnswer) {
            Case.due(title + ": refused before call " + at + ", " + r.call.name(), got, r.want);
        }
    }

    private long ask(Call call, ScopeRunner x, List<String> told) {
        long got = call.on(x);
        used++;
        told.add(call.name() + " answered " + got);
        return got;
    }

    private void tellAll(ScopeRunner x, List<String> told) {
        for (int i = 0; i <= 8 && ask(Call.state(i), x, told) >= 0; i++) {
            ask(Call.next(i), x, told);
            ask(Call.events(i), x, told);
            for (int k = 0; k < 4; k++) {
                ask(Call.variable(i, k), x, told);
            }
            for (int k = 0; k <= 32 && ask(Call.event(i, k), x, told) >= 0; k++) {
                continue;
            }
            for (int l = 0; l <= 16 && ask(Call.linkState(i, l), x, told) >= 0; l++) {
                continue;
            }
            for (int a = 0; a <= 24 && ask(Call.status(i, a), x, told) >= 0; a++) {
                if (ask(Call.kept(i, a), x, told) >= 0) {
                    ask(Call.own(i, a), x, told);
                }
            }
        }
    }
}
