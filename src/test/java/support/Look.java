import java.util.LinkedHashMap;
import java.util.Map;

/** All that an object answers: what it was asked, and its answers. */
final class Look {
    /** An object is used for at most 512 calls; the rest is for its past. */
    private static final int MOST_CALLS = 380;

    private final Map<String, Long> answers = new LinkedHashMap<>();
    private final CommaWill x;
    private String when = "";
    private int calls = 0;

    private Look(CommaWill x) {
        this.x = x;
    }

    /** What it answers as it stands. */
    static Map<String, Long> at(CommaWill x) {
        Look look = new Look(x);
        look.askAll();
        return look.answers;
    }

    /** What it answers, and what it would answer behind undo(), back() and row(); it is used up then. */
    static Map<String, Long> through(CommaWill x) {
        Look look = new Look(x);
        look.askAll();
        for (int i = 1; i <= 17; i++) {
            look.when = "undo " + i + ": ";
            look.ask("undo");
        }
        for (int j = 0; j < 6; j++) {
            look.ask("join", j, 0);
            look.ask("join", j, 1);
            look.ask("of", j, 0);
        }
        look.ask("count", 13);
        for (int k = 0; k < 2; k++) {
            look.when = "back to " + k + ": ";
            look.ask("back", k);
            look.askOfTheWill();
        }
        look.when = "row: ";
        look.ask("row");
        look.ask("blots");
        look.ask("who", 6);
        if (look.calls > MOST_CALLS) {
            throw new IllegalStateException("too many calls: " + look.calls);
        }
        return look.answers;
    }

    private void ask(String call, int... a) {
        calls++;
        String shown = java.util.Arrays.toString(a);
        answers.put(when + call + "(" + shown.substring(1, shown.length() - 1) + ")",
                Calls.of(x, call, a));
    }

    private void askAll() {
        for (String call : new String[] {"status", "fault", "stopped", "blots"}) {
            ask(call);
        }
        for (int what = 0; what <= 16; what++) {
            ask("count", what);
        }
        askOfTheWill();
        for (int p = 0; p < 6; p++) {
            ask("drawn", p);
            ask("range", p, 0);
            ask("range", p, 2);
        }
        for (int law = 0; law < 6; law++) {
            ask("compare", law, 0, 0);
        }
        for (int what = 0; what < 2; what++) {
            ask("fair", what);
            ask("ask", what);
            ask("settle", 0, what);
        }
    }

    /** What stands in an IMAGE, too. */
    private void askOfTheWill() {
        for (int i = 0; i < 7; i++) {
            ask("who", i);
        }
        for (int j = 0; j < 6; j++) {
            ask("join", j, 0);
            ask("join", j, 1);
        }
        for (int p = 0; p < 6; p++) {
            ask("of", p, 0);
            ask("of", p, 2);
            ask("gets", 0, p);
            ask("ruled", p);
        }
        ask("readings");
        ask("unlike");
        ask("fits", -1);
        ask("lost", 0);
        ask("few", 2, 9);
        for (int what : new int[] {0, 1, 2, 3, 4, 12, 13, 14, 15, 16}) {
            ask("count", what);
        }
    }
}
