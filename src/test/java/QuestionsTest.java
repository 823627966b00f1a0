import java.util.Map;

/** Questions change nothing: an object that is asked all the time answers as one that is not. */
public final class QuestionsTest extends Wills {
    private static final Sentences DOC = new Sentences();

    private interface Step {
        void on(CommaWill x);
    }

    private QuestionsTest() {
    }

    public static void main(String[] args) {
        names();
        terms();
        laws();
        deeds();
        ordersAndUndo();
        images();
        toldAndJudges();
        DOC.finish();
    }

    private static void past(CommaWill x) {
        write(x, "0&1|12!3&4");
        law(x, "shares 20 + year + mood; taxes worth / 50; bars if heir = 3 and year < 3");
        law(x, "shares 70; taxes 5");
        x.force(0);
        x.told(0, 100);
        x.judge(1);
    }

    /** Of two with one past the first is asked ahead of a step, and both answer alike behind it. */
    private static void asked(String what, Step... steps) {
        CommaWill x = new CommaWill();
        past(x);
        CommaWill twin = new CommaWill();
        past(twin);
        for (Step step : steps) {
            Look.at(x);
            step.on(x);
            step.on(twin);
        }
        Map<String, Long> due = Look.at(twin);
        for (Map.Entry<String, Long> answer : Look.at(x).entrySet()) {
            DOC.due(what + ": " + answer.getKey(), answer.getValue(), due.get(answer.getKey()));
        }
    }

    private static void names() {
        DOC.says("Nothing is promised beyond the answers and state changes described above");
        asked("nothing", x -> { });
        asked("name", x -> x.name(1, 2, 5));
        asked("two names", x -> x.name(0, 0, 5), x -> x.name(2, 0, 0));
        asked("an and", x -> x.name(0, 3, 5));
        asked("row", x -> row(x, 1, 2, 5, 0, 0, 0));
        asked("a row of ands", x -> row(x, 0, 3, 5, 0, 0, 0));
        asked("a row of blots", x -> row(x, 9));
    }

    private static void terms() {
        DOC.says("`int terms(int what, int value)`");
        asked("year", x -> x.terms(0, 9));
        asked("worth", x -> x.terms(1, 900));
        asked("mood", x -> x.terms(2, 9));
        asked("slips", x -> x.terms(3, 9));
    }

    private static void laws() {
        DOC.says("`int force(int law)`");
        asked("another law", x -> x.force(1));
        asked("no law", x -> x.force(NONE));
        asked("a law more", x -> law(x, "shares 5"), x -> x.force(2));
        asked("compared", x -> x.compare(1, 0, 0));
    }

    private static void deeds() {
        DOC.says("marks set, joins turned, deaths, years");
        asked("mark", x -> x.mark(2, 2));
        asked("marks", x -> x.mark(0, 3), x -> x.mark(1, 3));
        asked("turn", x -> x.turn(2, 0));
        asked("turn", x -> x.turn(0, 2), x -> x.turn(0, 0));
        asked("die", x -> x.die(0));
        asked("pass", x -> x.pass());
        asked("years", x -> x.years(8, 60));
    }

    private static void ordersAndUndo() {
        DOC.says("marks undone");
        asked("undo mark", x -> x.mark(2, 2), x -> x.undo());
        asked("undo turn", x -> x.turn(2, 0), x -> x.undo());
        asked("undo die", x -> x.die(0), x -> x.undo());
        asked("undo pass", x -> x.pass(), x -> x.undo());
        asked("orders", x -> orders(x, "mark 0 as 3; turn 1 to 0; die 1; pass times 3"));
        asked("orders that can't be", x -> orders(x, "mark 0 as 3; turn 1 to 0; die 1; pass times 3; die 9"));
        asked("orders of a mark that can't be", x -> orders(x, "mark 0 as 3; die 9"));
    }

    private static void images() {
        DOC.says("all gone back to");
        asked("back", x -> x.image(0), x -> {
            x.mark(0, 3);
            x.die(0);
            x.turn(1, 2);
            x.terms(1, 99);
            x.name(0, 0, 0);
        }, x -> x.back(0));
    }

    private static void toldAndJudges() {
        DOC.says("`int forget()`");
        asked("told", x -> x.told(1, 0));
        asked("judge", x -> x.judge(0));
        asked("forget", x -> x.forget());
    }
}
