import java.util.ArrayList;
import java.util.List;

/**
 * Two objects made by the same calls, of which one is asked something more: whatever is asked of
 * both later on, that must have left nothing behind.
 */
final class Twins {
    private static final int MOST_CALLS = 512;
    private static final int YARDS = 8, STREETS = 9, CITIZENS = 6, UNDONE = 10;
    private static final List<List<String>> PROBES = probes();

    private Twins() {
    }

    static void unchanged(String name, String[] made, String step) {
        for (List<String> probe : PROBES) {
            Case one = new Case();
            Case other = new Case();
            one.go(name, made);
            other.go(name, made);
            one.go(name, step);
            for (String call : probe) {
                Check.due(name + ": behind " + step + " " + call, one.ask(call), other.ask(call));
            }
            Check.due(name + ": no more calls than an object is used for",
                Math.max(one.calls(), MOST_CALLS), MOST_CALLS);
        }
    }

    private static List<List<String>> probes() {
        List<List<String>> probes = new ArrayList<>();
        probes.add(stands());
        probes.add(ways());
        probes.add(marks());
        for (String first : new String[] {"now(0)", "back(0)", "back(1)"}) {
            probes.add(undoing(first, true));
            probes.add(undoing(first, false));
        }
        probes.add(reading("clear()"));
        probes.add(reading("town()"));
        probes.add(reading("type(59)"));
        return probes;
    }

    private static List<String> stands() {
        List<String> calls = new ArrayList<>();
        for (int what = 0; what <= 5; what++) {
            calls.add("count(" + what + ")");
        }
        for (int what = 0; what <= 2; what++) {
            calls.add("now(" + what + ")");
        }
        for (int s = 0; s < STREETS; s++) {
            for (int what = 0; what <= 6; what++) {
                calls.add("street(" + s + ", " + what + ")");
            }
        }
        for (int p = 0; p < CITIZENS; p++) {
            for (int what = 0; what <= 2; what++) {
                calls.add("citizen(" + p + ", " + what + ")");
            }
        }
        calls.add("trace()");
        measures(calls);
        return calls;
    }

    private static void measures(List<String> calls) {
        for (String more : new String[] {"when()", "measures(3, 0)", "measures(2, 1)", "forget()"}) {
            calls.add("deeds(0)");
            calls.add("deeds(1)");
            calls.add(more);
        }
        calls.add("deeds(0)");
    }

    private static List<String> ways() {
        List<String> calls = new ArrayList<>();
        for (int a = 0; a < YARDS; a++) {
            for (int b = a + 1; b < YARDS; b++) {
                String yards = "(" + a + ", " + b;
                calls.add("widest" + yards + ")");
                calls.add("way" + yards + ", 2)");
                calls.add("flow" + yards + ", 0)");
                calls.add("flow" + yards + ", 1)");
                calls.add("need" + yards + ", 10)");
                calls.add("odds" + yards + ", 3, 0)");
                calls.add("odds" + yards + ", 3, 1)");
            }
        }
        return calls;
    }

    private static List<String> marks() {
        List<String> calls = new ArrayList<>();
        for (int s = 0; s < STREETS; s++) {
            for (int kind = 0; kind <= 5; kind++) {
                calls.add("mark(" + kind + ", " + s + ")");
            }
        }
        calls.add("trace()");
        for (int p = -1; p < CITIZENS; p++) {
            calls.add("carriage(" + p + ")");
        }
        return calls;
    }

    /** In two halves, as all of it would be more calls than an object is used for. */
    private static List<String> undoing(String first, boolean isTrue) {
        List<String> calls = new ArrayList<>();
        calls.add(first);
        for (int i = 0; i <= UNDONE; i++) {
            calls.add("now(0)");
            for (int s = 0; s < STREETS; s++) {
                calls.add("street(" + s + (isTrue ? ", 2)" : ", 4)"));
                if (isTrue) {
                    calls.add("street(" + s + ", 3)");
                }
            }
            for (int p = 0; p < CITIZENS && !isTrue; p++) {
                calls.add("citizen(" + p + ", 0)");
            }
            calls.add("undo()");
        }
        return calls;
    }

    private static List<String> reading(String first) {
        List<String> calls = new ArrayList<>();
        calls.add(first);
        calls.add("town()");
        calls.addAll(stands());
        return calls;
    }
}
