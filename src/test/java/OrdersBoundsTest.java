/** ORDERS at their bounds, and promises 12, 14. */
public final class OrdersBoundsTest extends Wills {
    private static final Sentences DOC = new Sentences();

    private OrdersBoundsTest() {
    }

    public static void main(String[] args) {
        clauses();
        times();
        places();
        whatCountsAsParts();
        asOftenAsTimesTell();
        ifIsAskedEachTime();
        sumsFromTheLeft();
        done();
        latest();
        readingsAndLiving();
        marksAndKinds();
        cannotBe();
        numbersThatCannotBe();
        allIsAsItWas();
        whatCanBeUndoneIsAsItWas();
        howManyWereRun();
        faults();
        stopped();
        DOC.finish();
    }

    private static void fault(String text, int place) {
        CommaWill x = will("0&1");
        int answer = orders(x, text);
        DOC.due("orders: " + text, answer == -6 ? 1 : 0, place < 0 ? 0 : 1);
        DOC.due("fault: " + text, x.fault(), place);
        DOC.due("tape: " + text, x.count(6), 0);
    }

    private static void runs(String sentence, String text, int due) {
        CommaWill x = will(sentence);
        DOC.due(sentence + ": " + text, orders(x, text), due);
    }

    private static void clauses() {
        DOC.says("CLAUSE: (\"mark\" SUM \"as\" SUM | \"turn\" SUM \"to\" SUM | \"die\" SUM | \"pass\")"
                + " [\"times\" TIMES] [\"if\" TEST].");
        fault("mark 0 as 1", -1);
        fault("mark 0 to 1", 7);
        fault("mark 0 1", 7);
        fault("mark 0", 6);
        fault("mark as 1", 5);
        fault("mark 0 as", 9);
        fault("turn 0 to 1", -1);
        fault("turn 0 as 1", 7);
        fault("turn 0", 6);
        fault("turn to 1", 5);
        fault("turn 0 to", 9);
        fault("die 0", -1);
        fault("die", 3);
        fault("die 0 as 1", 6);
        fault("pass", -1);
        fault("pass 1", 5);
        fault("pass pass", 5);
        fault("pass times 2 if 1=1", -1);
        fault("pass if 1=1 times 2", 12);
        fault("pass times 2 times 2", 13);
        fault("pass if 1=1 if 1=1", 12);
        fault("kind 0", 0);
        fault("mark mark 0 as mark 0 + 1", -1);
        fault("mark kind 0 as kind 0 + 1 times 1 if kind 0 = 0", -1);
    }

    private static void times() {
        DOC.says("TIMES: a NUMBER 1 .. 20.");
        fault("pass times 0", 11);
        fault("pass times 1", -1);
        fault("pass times 20", -1);
        fault("pass times 21", 11);
        fault("pass times 1000", 11);
        fault("pass times 99999999999", 11);
        fault("pass times 4294967297", 11);
        fault("pass times 020", -1);
        fault("pass times", 10);
        fault("pass times if 1=1", 11);
        fault("pass times year", 11);
        fault("pass times [1]", 11);
        fault("pass times -1", 11);
        fault("pass times 1+1", 12);
        runs("0&1", "pass times 1", 1);
        runs("0&1", "pass times 20", 20);
    }

    private static void places() {
        DOC.says("\"mark\" J | \"kind\" J (J: a NUMBER 0 .. 5)");
        for (String word : new String[] {"mark", "kind"}) {
            fault("pass if 0 < " + word + " 0", -1);
            fault("pass if 0 < " + word + " 5", -1);
            fault("pass if 0 < " + word + " 005", -1);
            fault("pass if 0 < " + word + " 6", 17);
            fault("pass if 0 < " + word + " 1000", 17);
            fault("pass if 0 < " + word + " 4294967296", 17);
            fault("pass if 0 < " + word + " year", 17);
            fault("pass if 0 < " + word + " [0]", 17);
            fault("pass if 0 < " + word, 16);
            fault("pass if 0 < " + word + " + 1", 17);
        }
    }

    private static void whatCountsAsParts() {
        DOC.says("J, TIMES aside, NUMBERS and words count as PARTS.");
        fault("die mark 0" + "+mark 0".repeat(49), -1);
        fault("die mark 0" + "+mark 0".repeat(49) + " times 20", -1);
        fault("die mark 0" + "+mark 0".repeat(50), 354);
        fault("die kind 0" + "+kind 0".repeat(49) + "+1", 354);
        fault("pass times 20;die 1" + "+1".repeat(49), -1);
        fault("pass times 20;die 1" + "+1".repeat(50), 118);
        fault("die 1" + "+1".repeat(49) + " if 1=1", 107);
        fault("die 1" + "+1".repeat(49) + ";pass", -1);
    }

    private static void asOftenAsTimesTell() {
        DOC.says("Run CLAUSE by CLAUSE, each as often as TIMES tell (once without)");
        runs("0&1", "pass", 1);
        runs("0&1", "pass;pass times 3;pass", 5);
        CommaWill x = will("0&1&2");
        DOC.due("one by one", orders(x, "mark 0 as mark 0 + 1 times 2; mark 1 as mark 0"), 3);
        DOC.due("2", x.join(1, 1), 2);
        x = will("0");
        String most = "pass times 20" + ";pass times 20".repeat(11);
        DOC.due("twelve by twenty", orders(x, most), 240);
        DOC.due("years", x.count(13), 240);
    }

    private static void ifIsAskedEachTime() {
        DOC.says("each time its \"if\" is asked (not run, if it is not so or BROKEN)");
        runs("0&1", "pass times 20 if year < 3", 3);
        runs("0&1", "pass if 1=2", 0);
        runs("0&1", "pass if 1/0=1", 0);
        runs("0&1", "pass if not 1/0=1", 0);
        runs("0&1", "pass if 1/0=1; pass if 1=2; pass", 1);
        runs("0&1", "pass times 20 if 10 / [year - 3] < 0", 3);
        runs("0&1", "die 9 if 1=2; mark 9 as 9 if 1/0=1; turn 1/0 to 0 if 1=2", 0);
        CommaWill x = will("0&1");
        orders(x, "die 9 if 1=2");
        DOC.due("one that is not run stops not", x.stopped(), NONE);
        DOC.due("nor is it refused", x.status(), 0);
    }

    private static void sumsFromTheLeft() {
        DOC.says("then its SUMS from the left");
        CommaWill x = will("0&1&2");
        DOC.due("a join, a mark", orders(x, "mark 1 as 3"), 1);
        DOC.due("mark of 1", x.join(1, 1), 3);
        DOC.due("mark of 0", x.join(0, 1), 0);
        DOC.due("a join, a kind", orders(x, "turn 1 to 2"), 1);
        DOC.due("kind of 1", x.join(1, 0), 2);
        DOC.due("both see what stands ahead of it", orders(x, "mark mark 1 - 3 as mark 1 - 2"), 1);
        DOC.due("mark of 0", x.join(0, 1), 1);
        DOC.due("a broken one of both", orders(x, "mark 0 as 1/0"), -3);
        DOC.due("a broken one of both", orders(x, "mark 1/0 as 0"), -3);
    }

    private static void done() {
        DOC.says("done: how many were run in this TEXT");
        runs("0&1", "pass if done = 0; pass if done = 1; pass if done = 3; pass if done = 2", 3);
        runs("0&1", "pass if 1 = 2; pass if done = 0", 1);
        runs("0&1", "pass times 20 if done < 20; pass if done = 20", 21);
        CommaWill x = will("0&1");
        orders(x, "pass times 5");
        DOC.due("of this text alone", orders(x, "pass if done = 0"), 1);
        orders(x, "pass times 5; die 9");
        DOC.due("not of one that could not be", orders(x, "pass if done = 0"), 1);
    }

    private static void latest() {
        DOC.says("latest: what the latest mark in it told (-1: none)");
        runs("0&1&2", "pass if latest = 0 - 1", 1);
        runs("0&1&2", "pass; turn 0 to 1; die 0; pass if latest = 0 - 1", 4);
        runs("0&1&2", "mark 0 as 1; pass if latest = 1; mark 1 as 1; pass if latest = 2", 4);
        runs("0&1&2", "mark 0 as 1 if 1 = 2; pass if latest = 0 - 1", 1);
        runs("0&1&2&3&4&5&0", "mark 0 as 1; mark 0 as 0; die 5; pass if latest = 132", 4);
        CommaWill x = will("0&1&2");
        x.mark(0, 1);
        DOC.due("not of mark() ahead of it", orders(x, "pass if latest = 0 - 1"), 1);
        orders(x, "mark 0 as 2");
        DOC.due("of this text alone", orders(x, "pass if latest = 0 - 1"), 1);
    }

    private static void readingsAndLiving() {
        DOC.says("readings: how many there are, living: how many PERSONS are");
        CommaWill x = new CommaWill();
        DOC.due("no names", orders(x, "pass if readings = 0 and living = 6"), 1);
        x.name(0, 0, 0);
        DOC.due("one name", orders(x, "pass if readings = 1"), 1);
        runs("0&1&2&3&4&5&0", "pass if readings = 132; mark 0 as 1; pass if readings = 42", 3);
        runs("0", "die 5 - done times 6; pass if living = 0", 7);
        runs("0", "die 6 - living times 6 if living > 3; pass if living = 3", 4);
    }

    private static void marksAndKinds() {
        DOC.says("mark, kind: -1 without such a JOIN");
        CommaWill x = new CommaWill();
        DOC.due("no names", orders(x, "pass if mark 0 = 0 - 1 and kind 0 = 0 - 1"), 1);
        runs("0", "pass if mark 0 = 0 - 1 and kind 0 = 0 - 1", 1);
        runs("0|31", "pass if mark 0 = 3 and kind 0 = 1 and mark 1 = 0 - 1 and kind 1 = 0 - 1", 1);
        runs("0!31!31!31!31!31!31", "pass if mark 5 = 3 and kind 5 = 2", 1);
        runs("0!31!31!31!31!31", "pass if mark 5 = 0 - 1 and kind 5 = 0 - 1 and mark 4 = 3", 1);
    }

    private static void stops(CommaWill x, String text, int clause) {
        DOC.due(text, orders(x, text), -3);
        DOC.due("stopped: " + text, x.stopped(), clause);
        DOC.due("status: " + text, x.status(), -3);
        DOC.due("no fault: " + text, x.fault(), NONE);
    }

    private static void cannotBe() {
        DOC.says("One that can't be (a BROKEN SUM, as mark(), turn(), die(), pass() are REFUSED) ends it");
        CommaWill x = will("0&11&22");
        x.die(4);
        stops(x, "mark 0 as 1", 0);
        stops(x, "mark 0 as 4", 0);
        stops(x, "mark 0 as 0 - 1", 0);
        stops(x, "mark 2 as 0", 0);
        stops(x, "mark 0 - 1 as 0", 0);
        stops(x, "turn 0 to 0", 0);
        stops(x, "turn 0 to 3", 0);
        stops(x, "turn 0 to 0 - 1", 0);
        stops(x, "turn 2 to 0", 0);
        stops(x, "turn 0 - 1 to 0", 0);
        stops(x, "die 4", 0);
        stops(x, "die 6", 0);
        stops(x, "die 0 - 1", 0);
        stops(x, "die 1/0", 0);
        stops(x, "mark 0 as 1/0", 0);
        stops(x, "mark 1/0 as 0", 0);
        stops(x, "turn 0 to 1%0", 0);
        stops(x, "turn 1%0 to 1", 0);
        stops(x, "die 1000*1000*1000+1", 0);
        x.terms(0, 999);
        stops(x, "pass", 0);
        x.terms(0, 998);
        stops(x, "pass times 2", 0);
        DOC.due("the last that can be", orders(x, "pass"), 1);
        DOC.due("year", x.count(13), 999);
    }

    private static void numbersThatCannotBe() {
        DOC.says("as mark(), turn(), die(), pass() are REFUSED");
        CommaWill x = will("0&1");
        int[] before = new int[5];
        for (int i = 0; i < 5; i++) {
            before[i] = x.count(7 + i);
        }
        orders(x, "mark 0 as 4");
        orders(x, "mark 1 as 0");
        orders(x, "mark 0 as 0");
        orders(x, "die 6");
        DOC.due("-1 is told of none of them", x.count(7), before[0]);
        DOC.due("nor -2", x.count(8), before[1]);
        DOC.due("each was one call that -3 refused", x.count(9), before[2] + 4);
    }

    private static void allIsAsItWas() {
        DOC.says("all is as it was ahead of it.");
        CommaWill x = lawful("0&11|22", "shares 10 + year");
        x.die(5);
        x.terms(0, 5);
        int gets = x.gets(0, 0);
        stops(x, "mark 0 as 3; turn 1 to 2; die 0; pass times 20; die 5", 4);
        DOC.due("mark", x.join(0, 1), 1);
        DOC.due("kind", x.join(1, 0), OR);
        DOC.due("living", x.of(0, 0), 1);
        DOC.due("so many", x.count(1), 5);
        DOC.due("year", x.count(13), 5);
        DOC.due("readings", x.readings(), 1);
        DOC.due("gets", x.gets(0, 0), gets);
        DOC.due("law", x.count(12), 0);
        stops(x, "pass times 20 if 1=1; mark 0 as 2 times 2", 1);
        DOC.due("those of the same clause, too", x.join(0, 1), 1);
        DOC.due("year", x.count(13), 5);
    }

    private static void whatCanBeUndoneIsAsItWas() {
        DOC.says("orders in a second language that are run wholly or not at all");
        CommaWill x = will("0&1");
        stops(x, "pass; die 9", 1);
        DOC.due("nothing can be undone", x.undo(), -3);
        for (int i = 0; i < 16; i++) {
            x.turn(0, 1 - x.join(0, 0));
        }
        stops(x, "pass times 20; die 9", 1);
        DOC.due("sixteen", x.count(5), 16);
        for (int i = 0; i < 16; i++) {
            DOC.due("a turn", x.undo(), 1);
        }
        DOC.due("no more", x.undo(), -3);
    }

    private static void howManyWereRun() {
        DOC.says("ORDERS, the TAPE is empty then: how many were run. -3 one can't be; -6 (as for law()).");
        CommaWill x = will("0&1");
        DOC.due("none", orders(x, "pass if 1=2"), 0);
        DOC.due("the tape is empty", x.count(6), 0);
        DOC.due("not refused", x.status(), 0);
        DOC.due("two", orders(x, "pass;pass if 1=2;pass"), 2);
        DOC.due("the tape is empty", x.count(6), 0);
        DOC.due("can't be", orders(x, "die 9"), -3);
        DOC.due("the tape is empty", x.count(6), 0);
        DOC.due("a fault", orders(x, "pass;x"), -6);
        DOC.due("the tape is empty", x.count(6), 0);
        DOC.due("of which nothing ran", x.count(13), 2);
        for (int i = 0; i < 6; i++) {
            law(x, "bars");
        }
        DOC.due("laws take no room of orders", orders(x, "pass"), 1);
    }

    private static void faults() {
        DOC.says("-6 (as for law())");
        CommaWill x = will("0&1");
        DOC.due("no bytes", x.orders(), -6);
        DOC.due("fault at the end", x.fault(), 0);
        DOC.due("blanks", orders(x, "  "), -6);
        DOC.due("fault at the end", x.fault(), 2);
        DOC.due("a fault behind what can't be", orders(x, "die 9;x"), -6);
        DOC.due("is told first", x.fault(), 6);
        DOC.due("nothing stopped", x.stopped(), NONE);
    }

    private static void stopped() {
        DOC.says("Which CLAUSE of the latest orders() could not be. NONE.");
        CommaWill x = will("0&1");
        DOC.due("ahead of any", x.stopped(), NONE);
        orders(x, "die 9");
        DOC.due("the first", x.stopped(), 0);
        law(x, "bars");
        law(x, "x");
        x.mark(9, 9);
        DOC.due("others leave it", x.stopped(), 0);
        orders(x, "pass");
        DOC.due("none", x.stopped(), NONE);
        orders(x, "pass;".repeat(11) + "die 9");
        DOC.due("the twelfth", x.stopped(), 11);
        orders(x, "x");
        DOC.due("none that was read", x.stopped(), NONE);
        orders(x, "die 9 if 1=2;pass;die 9;die 8");
        DOC.due("the first that could not be", x.stopped(), 2);
        x.orders();
        DOC.due("none on an empty tape", x.stopped(), NONE);
    }
}
