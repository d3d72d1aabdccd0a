import java.util.ArrayList;
import java.util.List;

/** Calls that make an object what it is, so that it can be made anew as often as it is asked. */
final class Script {
    private final List<Call> calls = new ArrayList<>();

    Script call(String name, int... numbers) {
        return then(Call.of(name, numbers));
    }

    Script then(Call call) {
        calls.add(call);
        return this;
    }

    /** What this one has and one call more; this one stays. */
    Script and(Call call) {
        Script longer = new Script();
        longer.calls.addAll(calls);
        return longer.then(call);
    }

    int length() {
        return calls.size();
    }

    PressSheets play() {
        PressSheets x = new PressSheets();
        for (Call c : calls) {
            c.on(x);
        }
        return x;
    }
}
