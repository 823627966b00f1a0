import java.util.Arrays;
import java.util.List;
import java.util.Map;

/** A refused call tells why, is counted, and changes nothing but what the document says. */
public final class RefusedTest extends Wills {
    private static final Sentences DOC = new Sentences();
    private static final int[] CODES = {-1, -2, -3, -5, -6};

    private interface Past {
        void on(CommaWill x);
    }

    private interface Call {
        int on(CommaWill x);
    }

    private RefusedTest() {
    }

    public static void main(String[] args) {
        numbersThatCannotBe();
        noSuch();
        byWhatStands();
        noRoom();
        textsAndRows();
        theNumberFirst();
        thenWhetherThereIsSuch();
        thenWhatStands();
        thenRoom();
        noneChangesNothing();
        atFirst();
        DOC.finish();
    }

    /** A past in which all that can be seen is another than at first. */
    private static void past(CommaWill x) {
        write(x, "0&11|22!33");
        law(x, "shares 30; taxes 10; bars if heir = 3");
        law(x, "shares 40 + year");
        x.force(1);
        x.image(0);
        x.told(1, 400);
        x.judge(0);
        row(x, 1, 0, 4, 9);
        x.terms(1, 2000);
        x.terms(3, 2);
        x.years(8, 3);
        orders(x, "pass; die 9");
        x.die(5);
        x.mark(0, 2);
        x.turn(1, 0);
        x.pass();
        x.name(9, 9, 9);
        law(x, "bars x");
        putBytes(x, 2, 1, 3, 0, 0);
    }

    /** The same, with no room for anything more. */
    private static void full(CommaWill x) {
        past(x);
        x.end(0);
        row(x, 0, 0, 0, 0, 0, 0);
        for (int i = 0; i < 6; i++) {
            x.told(1, 400);
            x.judge(1);
            law(x, "shares " + i);
        }
        x.end(0);
        x.terms(0, 998);
        x.pass();
        x.die(4);
        law(x, "taxes");
        orders(x, "pass y");
        putBytes(x, 2, 1, 3, 0, 0);
    }

    /** The call is refused; but for its status, its count and these the object is as its twin. */
    private static void refused(String what, Past past, Call call, int code, String... others) {
        CommaWill x = new CommaWill();
        past.on(x);
        CommaWill twin = new CommaWill();
        past.on(twin);
        DOC.due(what, call.on(x), code);
        Map<String, Long> found = Look.through(x);
        Map<String, Long> due = Look.through(twin);
        String counted = "";
        for (int i = 0; i < CODES.length; i++) {
            if (CODES[i] == code) {
                counted = "count(" + (7 + i) + ")";
            }
        }
        List<String> apart = Arrays.asList(others);
        DOC.due(what + ": status", found.get("status()"), code);
        DOC.due(what + ": " + counted, found.get(counted), due.get(counted) + 1);
        for (Map.Entry<String, Long> answer : due.entrySet()) {
            String asked = answer.getKey();
            if (!asked.equals("status()") && !asked.equals(counted) && !apart.contains(asked)) {
                DOC.due(what + ": then " + asked, found.get(asked), answer.getValue());
            }
        }
    }

    private static void refused(String what, Call call, int code) {
        refused(what, RefusedTest::past, call, code);
    }

    private static void numbersThatCannotBe() {
        DOC.says("REFUSED by: -1 a number that can't be");
        refused("name, kind", x -> x.name(3, 0, 0), -1);
        refused("name, mark", x -> x.name(0, 4, 0), -1);
        refused("name, person", x -> x.name(0, 0, 6), -1);
        refused("name, below 0", x -> x.name(-1, -1, -1), -1);
        refused("the first name, kind", x -> { }, x -> x.name(1, 0, 0), -1);
        refused("the first name, mark", x -> { }, x -> x.name(0, 1, 0), -1);
        refused("terms, what", x -> x.terms(4, 0), -1);
        refused("terms, what below 0", x -> x.terms(-1, 0), -1);
        refused("terms, year", x -> x.terms(0, 1000), -1);
        refused("terms, worth", x -> x.terms(1, 10000), -1);
        refused("terms, mood", x -> x.terms(2, 10), -1);
        refused("terms, slips", x -> x.terms(3, 11), -1);
        refused("terms, below 0", x -> x.terms(0, -1), -1);
        refused("mark", x -> x.mark(0, 4), -1);
        refused("turn", x -> x.turn(0, 3), -1);
        refused("die", x -> x.die(6), -1);
        refused("die, below 0", x -> x.die(-1), -1);
        refused("told, person", x -> x.told(6, 0), -1);
        refused("told, much", x -> x.told(0, 10000), -1);
        refused("judge", x -> x.judge(132), -1);
        refused("judge, below 0", x -> x.judge(-1), -1);
        refused("years, seed", x -> x.years(1_000_001, 1), -1);
        refused("years, seed below 0", x -> x.years(-1, 1), -1);
        refused("years, n", x -> x.years(1, 61), -1);
        refused("years, n 0", x -> x.years(1, 0), -1);
        refused("image", x -> x.image(2), -1);
        refused("image, below 0", x -> x.image(-1), -1);
        refused("back", x -> x.back(2), -1);
        refused("back, below 0", x -> x.back(-1), -1);
    }

    private static void noSuch() {
        DOC.says("-2 there is no such JOIN, LAW, IMAGE");
        refused("mark", x -> x.mark(4, 1), -2);
        refused("mark, below 0", x -> x.mark(-1, 1), -2);
        refused("turn", x -> x.turn(4, 1), -2);
        refused("turn, below 0", x -> x.turn(-1, 1), -2);
        refused("force", x -> x.force(2), -2);
        refused("force, below NONE", x -> x.force(-2), -2);
        refused("back", x -> x.back(1), -2);
    }

    private static void byWhatStands() {
        DOC.says("-3 it can't be by what stands");
        refused("mark", x -> x.mark(0, 2), -3);
        refused("turn", x -> x.turn(1, 0), -3);
        refused("die", x -> x.die(5), -3);
        refused("pass", RefusedTest::full, CommaWill::pass, -3);
        refused("undo", x -> {
            past(x);
            x.terms(0, 5);
        }, CommaWill::undo, -3);
        String[] changed = {"count(6)", "fault()", "stopped()", "row: row()", "row: blots()"};
        Past withOrders = x -> {
            past(x);
            x.end(0);
            Check.put(x, "mark 0 as 1; turn 0 to 2; die 0; pass times 20; die 5");
        };
        refused("orders", withOrders, CommaWill::orders, -3, changed);
        CommaWill x = new CommaWill();
        withOrders.on(x);
        x.orders();
        DOC.due("the tape is empty", x.count(6), 0);
        DOC.due("no fault", x.fault(), NONE);
        DOC.due("stopped", x.stopped(), 4);
    }

    private static void noRoom() {
        DOC.says("-5 no room");
        refused("name", RefusedTest::full, x -> x.name(0, 0, 0), -5);
        refused("told", RefusedTest::full, x -> x.told(0, 0), -5);
        refused("judge", RefusedTest::full, x -> x.judge(0), -5);
        String[] changed = {"count(6)", "row: row()", "row: blots()"};
        refused("law", RefusedTest::full, CommaWill::law, -5, changed);
        refused("law of no bytes", x -> {
            full(x);
            x.end(0);
        }, CommaWill::law, -5);
        CommaWill x = new CommaWill();
        full(x);
        x.law();
        DOC.due("the tape is empty", x.count(6), 0);
    }

    private static void textsAndRows() {
        DOC.says("-6 a TEXT, a ROW that can't be.");
        Past withoutTape = x -> {
            past(x);
            x.end(0);
        };
        refused("row", withoutTape, CommaWill::row, -6);
        refused("law of no bytes", withoutTape, CommaWill::law, -6, "fault()");
        refused("orders of no bytes", withoutTape, CommaWill::orders, -6, "fault()", "stopped()");
        String[] changed = {"count(6)", "fault()", "stopped()", "row: row()", "row: blots()"};
        Past withText = x -> {
            withoutTape.on(x);
            Check.put(x, "pass; pass; shares");
        };
        refused("orders", withText, CommaWill::orders, -6, changed);
        String[] changedByLaw = {"count(6)", "fault()", "row: row()", "row: blots()"};
        refused("law", withText, CommaWill::law, -6, changedByLaw);
        CommaWill x = new CommaWill();
        withText.on(x);
        x.orders();
        DOC.due("fault of orders", x.fault(), 12);
        DOC.due("stopped by none", x.stopped(), NONE);
        DOC.due("the tape is empty", x.count(6), 0);
        x = new CommaWill();
        withText.on(x);
        x.law();
        DOC.due("fault of law", x.fault(), 0);
        DOC.due("where orders stopped stays", x.stopped(), 1);
        DOC.due("the tape is empty", x.count(6), 0);
    }

    private static void theNumberFirst() {
        DOC.says("The first of these in that order.");
        refused("mark: a number ahead of the join", x -> x.mark(9, 9), -1);
        refused("mark: a number ahead of the join", x -> x.mark(-1, -1), -1);
        refused("turn: a number ahead of the join", x -> x.turn(9, 9), -1);
        refused("turn: a number ahead of the join", x -> x.turn(-1, -1), -1);
        refused("name: a number ahead of room", RefusedTest::full, x -> x.name(3, 0, 0), -1);
        refused("name: a number ahead of room", RefusedTest::full, x -> x.name(0, 4, 0), -1);
        refused("name: a number ahead of room", RefusedTest::full, x -> x.name(0, 0, 6), -1);
        refused("told: a number ahead of room", RefusedTest::full, x -> x.told(6, 0), -1);
        refused("told: a number ahead of room", RefusedTest::full, x -> x.told(0, 10000), -1);
        refused("judge: a number ahead of room", RefusedTest::full, x -> x.judge(132), -1);
        refused("back: a number ahead of the image", x -> { }, x -> x.back(2), -1);
    }

    private static void thenWhetherThereIsSuch() {
        DOC.says("a number that can't be; -2 there is no such JOIN, LAW, IMAGE; -3 it can't be by what stands");
        refused("mark: no join ahead of what stands", x -> x.mark(9, 0), -2);
        refused("turn: no join ahead of what stands", x -> x.turn(9, 0), -2);
        refused("mark without names", x -> { }, x -> x.mark(0, 0), -2);
        refused("turn without names", x -> { }, x -> x.turn(0, 0), -2);
    }

    private static void thenWhatStands() {
        DOC.says("-3 it can't be by what stands; -5 no room");
        refused("die: a number ahead of what stands", x -> {
            for (int p = 0; p < 6; p++) {
                x.die(p);
            }
        }, x -> x.die(6), -1);
        refused("die, all being dead", x -> {
            for (int p = 0; p < 6; p++) {
                x.die(p);
            }
        }, x -> x.die(0), -3);
    }

    private static void thenRoom() {
        DOC.says("-5 no room; -6 a TEXT, a ROW that can't be.");
        String[] changed = {"count(6)", "row: row()", "row: blots()"};
        refused("law: room ahead of the text", x -> {
            full(x);
            x.end(0);
            Check.put(x, "x");
        }, CommaWill::law, -5, changed);
        refused("row: no bytes, though there is no room either", x -> {
            full(x);
            x.end(0);
        }, CommaWill::row, -6);
    }

    /** Questions that have no answer, and what has no room on the tape. */
    private static void askInVain(CommaWill x) {
        int[] in = {x.who(7), x.who(-1), x.join(6, 0), x.join(0, 2), x.of(6, 0), x.of(0, 3),
            x.end(-1), x.end(401), x.depth(132, 0), x.depth(0, 6), x.gets(132, 0), x.gets(0, 6),
            x.lost(132), x.range(6, 0), x.range(0, 3), x.settle(132, 0), x.settle(0, 8), x.fair(2),
            x.fits(132), x.fits(-2), x.ask(2), x.ruled(6), (int) x.few(0, 0), (int) x.few(1, 100),
            x.compare(6, 0, 0), x.compare(0, 132, 0), x.compare(0, 0, 6), x.drawn(6), x.count(17),
            x.count(-1)};
        for (int i = 0; i < in.length; i++) {
            DOC.due("in vain " + i, in[i], NONE);
        }
    }

    private static void noneChangesNothing() {
        DOC.says("`NONE = -1`: There is none.");
        DOC.due("the constant", CommaWill.NONE, -1);
        CommaWill x = new CommaWill();
        past(x);
        CommaWill twin = new CommaWill();
        past(twin);
        askInVain(x);
        same(x, twin);
        x = new CommaWill();
        twin = new CommaWill();
        for (int i = 0; i < 20; i++) {
            x.feed(0, 0, 0, 0, 0);
            twin.feed(0, 0, 0, 0, 0);
        }
        DOC.due("no room on the tape", x.feed(1, 1, 1, 1, 1), NONE);
        same(x, twin);
    }

    private static void same(CommaWill x, CommaWill twin) {
        Map<String, Long> due = Look.through(twin);
        for (Map.Entry<String, Long> answer : Look.through(x).entrySet()) {
            DOC.due("then " + answer.getKey(), answer.getValue(), due.get(answer.getKey()));
        }
    }

    private static void atFirst() {
        DOC.says("The first of these in that order.");
        Past none = x -> { };
        refused("undo", none, CommaWill::undo, -3);
        refused("row", none, CommaWill::row, -6);
        refused("law", none, CommaWill::law, -6, "fault()");
        refused("orders", none, CommaWill::orders, -6, "fault()");
        refused("force", none, x -> x.force(0), -2);
        refused("back", none, x -> x.back(0), -2);
    }
}
