import java.util.ArrayList;
import java.util.List;

/**
 * A run of calls on a new object, with the answers that are due. Behind each call that is refused it
 * is also tested that the call changed nothing: two more objects are led to the same state, one of
 * them is asked the refused call, and from there on both have to answer alike.
 */
final class Run {
    private final String name;
    private final Asked asked = new Asked();
    private final List<String> answered = new ArrayList<>();

    Run(String name) {
        this.name = name;
    }

    /** Calls that lead to what is tested: each has to answer, whatever it answers. */
    Run after(String... calls) {
        for (String call : calls) {
            String got = asked.ask(call);
            Check.isTrue(name + ": " + call + ", which " + got, !got.startsWith("throws."));
            answered.add(call);
        }
        return this;
    }

    Run afterTimes(int times, String call) {
        for (int i = 0; i < times; i++) {
            after(call);
        }
        return this;
    }

    Run gives(String call, long want) {
        Check.told(name + ": " + call, Long.toString(want), asked.ask(call));
        answered.add(call);
        return this;
    }

    Run noSuch(String... calls) {
        return refuses("throws.java.lang.IndexOutOfBoundsException", calls);
    }

    Run badArgument(String... calls) {
        return refuses("throws.java.lang.IllegalArgumentException", calls);
    }

    Run badState(String... calls) {
        return refuses("throws.java.lang.IllegalStateException", calls);
    }

    private Run refuses(String want, String... calls) {
        for (String call : calls) {
            Check.told(name + ": " + call, want, asked.ask(call));
            changesNothing(call);
        }
        return this;
    }

    private void changesNothing(String call) {
        List<String> calls = whatCanBeSeen(again());
        calls.addAll(whatCanFollow());
        Asked refused = again();
        Asked twin = again();
        refused.ask(call);
        for (String next : calls) {
            Check.told(name + ": " + next + " behind " + call, twin.ask(next), refused.ask(next));
        }
    }

    private Asked again() {
        Asked other = new Asked();
        for (String call : answered) {
            other.ask(call);
        }
        return other;
    }

    /** Every question that the object can be asked, of days only some; each list ends with one too many. */
    private static List<String> whatCanBeSeen(Asked other) {
        List<String> calls = new ArrayList<>();
        calls.add("today()");
        int today = Integer.parseInt(other.ask("today()"));
        for (int i = 0; i < 5; i++) {
            for (int day : new int[] {0, today / 2, today - 1, today, today + 1}) {
                calls.add("price(" + i + ", " + day + ")");
            }
            for (int j = 0; j < 5; j++) {
                calls.add("owes(" + i + ", " + j + ")");
            }
            calls.add("losses(" + i + ")");
        }
        for (int i = 0; i == 0 || isThere(other, "units(" + (i - 1) + ")"); i++) {
            calls.add("units(" + i + ")");
            calls.add("provider(" + i + ")");
        }
        for (int i = 0; i == 0 || isThere(other, "stage(" + (i - 1) + ")"); i++) {
            for (String question : new String[] {"stage", "due", "late", "money", "madeGood"}) {
                calls.add(question + "(" + i + ")");
            }
        }
        return calls;
    }

    private static boolean isThere(Asked other, String question) {
        return !other.ask(question).startsWith("throws.");
    }

    /** Changes by which a state that no question shows would be seen. */
    private static List<String> whatCanFollow() {
        List<String> calls = new ArrayList<>();
        calls.add("setDefault(4321)");
        for (int i = 0; i < 5; i++) {
            calls.add("setPrice(" + i + ", " + (2000 + i) + ")");
        }
        calls.add("begin(1, 7)");
        for (int i = 0; i < 10; i++) {
            calls.add("pay(" + i + ", 2)");
            calls.add("order(" + i + ", " + (i % 5) + ")");
        }
        for (int i = 0; i < 30; i++) {
            calls.add("step(" + i + ")");
        }
        calls.add("pass(1)");
        for (int i = 0; i < 5; i++) {
            calls.add("setPrice(" + i + ", " + (3000 + i) + ")");
        }
        for (int i = 0; i < 10; i++) {
            calls.add("units(" + i + ")");
        }
        return calls;
    }
}
