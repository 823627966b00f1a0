/** Marks, turns, deaths, years at their bounds: promises 16 to 20. */
public final class DeedBoundsTest extends Wills {
    private static final Sentences DOC = new Sentences();

    private DeedBoundsTest() {
    }

    public static void main(String[] args) {
        anotherOne();
        mark();
        markTellsReadings();
        turn();
        die();
        pass();
        eachIsUndone();
        undoneByOrdersToo();
        sixteenAreKept();
        noneToUndo();
        nothingAheadOfOthers();
        aheadOfARefusedOne();
        otherCallsLeaveIt();
        DOC.finish();
    }

    private static void anotherOne() {
        DOC.says("To MARK a JOIN: its MARK is another one. To TURN one: its KIND is another one."
                + " To DIE: a LIVING PERSON is dead. A YEAR passes (YEAR below 999).");
        CommaWill x = will("0&1");
        for (int mark = 0; mark <= 3; mark++) {
            x.mark(0, mark);
            DOC.due("the mark it has", x.mark(0, mark), -3);
        }
        for (int kind = 0; kind <= 2; kind++) {
            x.turn(0, kind);
            DOC.due("the kind it has", x.turn(0, kind), -3);
        }
        for (int p = 0; p < 6; p++) {
            DOC.due("living", x.die(p), 5 - p);
            DOC.due("dead already", x.die(p), -3);
        }
        x.terms(0, 997);
        DOC.due("998", x.pass(), 998);
        DOC.due("999", x.pass(), 999);
        DOC.due("no more", x.pass(), -3);
        DOC.due("year", x.count(13), 999);
    }

    private static void mark() {
        DOC.says("-1 (the MARK); -2; -3 (it is so already)");
        CommaWill x = will("0&1&2");
        DOC.due("mark 3", x.mark(1, 3), 1);
        DOC.due("mark 0", x.mark(1, 0), 2);
        DOC.due("mark 4", x.mark(1, 4), -1);
        DOC.due("mark -1", x.mark(1, -1), -1);
        DOC.due("join 2", x.mark(2, 1), -2);
        DOC.due("join -1", x.mark(-1, 1), -2);
        DOC.due("so already", x.mark(1, 0), -3);
        DOC.due("mark 4 of join 2", x.mark(2, 4), -1);
        DOC.due("mark 4 of join -1", x.mark(-1, 4), -1);
        DOC.due("join 2, so it would be", x.mark(2, 0), -2);
        for (int far : FAR) {
            DOC.due("far mark", x.mark(0, far), -1);
            DOC.due("far join", x.mark(far, 0), -2);
        }
        DOC.due("it stays", x.join(1, 1), 0);
        DOC.due("no names", new CommaWill().mark(0, 1), -2);
        DOC.due("one name", will("0").mark(0, 1), -2);
        DOC.due("two names", will("0&1").mark(0, 1), 1);
        DOC.due("the last of seven", will("0&1&2&3&4&5&0").mark(5, 3), 42);
        DOC.due("behind the last", will("0&1&2&3&4&5&0").mark(6, 3), -2);
    }

    private static void markTellsReadings() {
        DOC.says("To MARK: how many READINGS there are then.");
        CommaWill x = will("0&1&2&3");
        int[][] due = {{0, 1, 2}, {1, 1, 2}, {2, 1, 5}, {1, 2, 1}, {0, 3, 1}, {1, 3, 2}, {2, 3, 5}};
        for (int[] step : due) {
            DOC.due("mark " + step[0] + " as " + step[1], x.mark(step[0], step[1]), step[2]);
            DOC.due("readings", x.readings(), step[2]);
        }
    }

    private static void turn() {
        DOC.says("To TURN: the KIND it was. -1 (the KIND); -2; -3 (it is so already).");
        CommaWill x = will("0&1&2");
        DOC.due("was and", x.turn(1, 2), 0);
        DOC.due("was but", x.turn(1, 1), 2);
        DOC.due("was or", x.turn(1, 0), 1);
        DOC.due("kind 3", x.turn(1, 3), -1);
        DOC.due("kind -1", x.turn(1, -1), -1);
        DOC.due("join 2", x.turn(2, 1), -2);
        DOC.due("join -1", x.turn(-1, 1), -2);
        DOC.due("so already", x.turn(1, 0), -3);
        DOC.due("kind 3 of join 2", x.turn(2, 3), -1);
        DOC.due("join 2, so it would be", x.turn(2, 0), -2);
        for (int far : FAR) {
            DOC.due("far kind", x.turn(0, far), -1);
            DOC.due("far join", x.turn(far, 0), -2);
        }
        DOC.due("it stays", x.join(1, 0), 0);
        DOC.due("no names", new CommaWill().turn(0, 1), -2);
        DOC.due("one name", will("0").turn(0, 1), -2);
        DOC.due("the last of seven", will("0&1&2&3&4&5&0").turn(5, 2), 0);
        DOC.due("behind the last", will("0&1&2&3&4&5&0").turn(6, 2), -2);
    }

    private static void die() {
        DOC.says("To DIE: how many PERSONS are LIVING then. -1; -3.");
        CommaWill x = new CommaWill();
        DOC.due("-1", x.die(-1), -1);
        DOC.due("6", x.die(6), -1);
        for (int far : FAR) {
            DOC.due("far", x.die(far), -1);
        }
        DOC.due("all live", x.count(1), 6);
        DOC.due("5", x.die(5), 5);
        DOC.due("5 again", x.die(5), -3);
        for (int p = 0; p < 5; p++) {
            DOC.due("the others", x.die(p), 4 - p);
        }
        DOC.due("the last again", x.die(4), -3);
        DOC.due("6, all being dead", x.die(6), -1);
    }

    private static void pass() {
        DOC.says("A YEAR: its number. -3.");
        CommaWill x = new CommaWill();
        DOC.due("the first", x.pass(), 1);
        DOC.due("the second", x.pass(), 2);
        x.terms(0, 998);
        DOC.due("the last", x.pass(), 999);
        DOC.due("no more", x.pass(), -3);
        DOC.due("year", x.count(13), 999);
        DOC.due("back to 998", x.undo(), 3);
        DOC.due("the last again", x.pass(), 999);
    }

    private static void eachIsUndone() {
        DOC.says("is undone: 0 .. 3.");
        CommaWill x = will("0&1|2");
        x.mark(0, 3);
        x.mark(0, 1);
        x.turn(1, 2);
        x.turn(1, 0);
        x.die(5);
        x.die(0);
        x.pass();
        x.pass();
        DOC.due("eight", x.count(5), 8);
        DOC.due("pass", x.undo(), 3);
        DOC.due("year", x.count(13), 1);
        DOC.due("pass", x.undo(), 3);
        DOC.due("year", x.count(13), 0);
        DOC.due("die", x.undo(), 2);
        DOC.due("living", x.of(0, 0), 1);
        DOC.due("dead yet", x.of(5, 0), 0);
        DOC.due("die", x.undo(), 2);
        DOC.due("living", x.of(5, 0), 1);
        DOC.due("turn", x.undo(), 1);
        DOC.due("kind", x.join(1, 0), 2);
        DOC.due("turn", x.undo(), 1);
        DOC.due("kind", x.join(1, 0), 1);
        DOC.due("mark", x.undo(), 0);
        DOC.due("mark 3", x.join(0, 1), 3);
        DOC.due("one reading", x.readings(), 1);
        DOC.due("mark", x.undo(), 0);
        DOC.due("mark 0", x.join(0, 1), 0);
        DOC.due("two readings", x.readings(), 2);
        DOC.due("none", x.count(5), 0);
        x.die(3);
        x.undo();
        DOC.due("what was undone is not undone again", x.undo(), -3);
    }

    private static void undoneByOrdersToo() {
        DOC.says("(by ORDERS, too; 16 are kept)");
        CommaWill x = will("0&1|2");
        x.pass();
        orders(x, "mark 0 as 2; turn 1 to 2; die 4; pass");
        DOC.due("five", x.count(5), 5);
        DOC.due("pass", x.undo(), 3);
        DOC.due("die", x.undo(), 2);
        DOC.due("turn", x.undo(), 1);
        DOC.due("mark", x.undo(), 0);
        DOC.due("mark 0", x.join(0, 1), 0);
        DOC.due("the pass ahead", x.undo(), 3);
        x.die(0);
        orders(x, "pass times 15");
        DOC.due("sixteen", x.count(5), 16);
        for (int i = 0; i < 15; i++) {
            DOC.due("pass", x.undo(), 3);
        }
        DOC.due("the death is kept", x.undo(), 2);
        x.die(0);
        orders(x, "pass times 16");
        for (int i = 0; i < 16; i++) {
            DOC.due("pass", x.undo(), 3);
        }
        DOC.due("the death is not", x.undo(), -3);
        orders(x, "pass times 20");
        DOC.due("sixteen of twenty", x.count(5), 16);
    }

    private static void sixteenAreKept() {
        DOC.says("16 are kept");
        CommaWill x = will("0&1");
        x.die(0);
        x.die(1);
        for (int i = 2; i <= 16; i++) {
            x.pass();
            DOC.due("so many", x.count(5), Math.min(16, i + 1));
        }
        for (int i = 0; i < 15; i++) {
            DOC.due("pass", x.undo(), 3);
        }
        DOC.due("the second is the oldest", x.undo(), 2);
        DOC.due("1 lives", x.of(1, 0), 1);
        DOC.due("no more", x.undo(), -3);
        DOC.due("0 is dead", x.of(0, 0), 0);
        DOC.due("year", x.count(13), 0);
    }

    private static void noneToUndo() {
        DOC.says("-3 there is none");
        CommaWill x = new CommaWill();
        DOC.due("at first", x.undo(), -3);
        DOC.due("status", x.status(), -3);
        x.die(6);
        x.mark(0, 1);
        x.turn(0, 1);
        DOC.due("refused ones are none", x.undo(), -3);
        x.terms(0, 999);
        x.pass();
        DOC.due("refused ones are none", x.count(5), 0);
        x.die(0);
        x.die(0);
        DOC.due("the one that was", x.undo(), 2);
        DOC.due("no more", x.undo(), -3);
    }

    private static void nothingAheadOfOthers() {
        DOC.says("(nothing that was ahead of a name(), terms(), row() that was not REFUSED can be undone)");
        CommaWill x = will("0&1");
        x.pass();
        x.name(0, 0, 0);
        DOC.due("ahead of name", x.undo(), -3);
        for (int what = 0; what < 4; what++) {
            x.die(what);
            x.terms(what, x.count(13 + what));
            DOC.due("ahead of terms " + what, x.undo(), -3);
        }
        x.pass();
        row(x, 0, 0, 0);
        DOC.due("ahead of row", x.undo(), -3);
        x.pass();
        row(x, 9);
        DOC.due("ahead of a row of blots", x.undo(), -3);
        x.pass();
        x.name(0, 0, 0);
        x.die(5);
        DOC.due("one", x.count(5), 1);
        DOC.due("behind name", x.undo(), 2);
        DOC.due("no more", x.undo(), -3);
    }

    private static void aheadOfARefusedOne() {
        DOC.says("a name(), terms(), row() that was not REFUSED");
        CommaWill x = will("0&1");
        x.pass();
        x.name(0, 0, 6);
        x.name(3, 0, 0);
        x.terms(4, 0);
        x.terms(0, 1000);
        x.row();
        DOC.due("one is there yet", x.count(5), 1);
        DOC.due("it is undone", x.undo(), 3);
        x = will("0&1&2&3&4&5&0");
        x.die(0);
        x.name(0, 0, 0);
        DOC.due("behind a name without room", x.undo(), 2);
    }

    private static void otherCallsLeaveIt() {
        DOC.says("The latest mark(), turn(), die(), pass()");
        CommaWill x = will("0&1");
        x.pass();
        law(x, "bars");
        law(x, "x");
        x.force(0);
        x.told(0, 0);
        x.judge(0);
        x.forget();
        x.years(0, 60);
        x.image(0);
        x.back(1);
        orders(x, "pass if 1=2");
        orders(x, "die 9");
        orders(x, "x");
        x.feed(0, 0, 0, 0, 0);
        DOC.due("one", x.count(5), 1);
        DOC.due("it is undone", x.undo(), 3);
        DOC.due("year", x.count(13), 0);
    }
}
