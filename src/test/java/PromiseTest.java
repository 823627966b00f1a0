/** Each promise of the document by itself: ordinary inputs, the edges that it names, wrong inputs. */
public final class PromiseTest extends Wills {
    private static final Check CHECK = new Check();

    private PromiseTest() {
    }

    public static void main(String[] args) {
        aNewObject();
        name();
        whoAndJoin();
        of();
        terms();
        feedAndEnd();
        rowAndBlots();
        law();
        faultsOfBothLanguages();
        limitsOfTexts();
        sumsAndTests();
        lawsInForce();
        orders();
        wordsOfOrders();
        ordersThatCannotBe();
        force();
        mark();
        turn();
        dieAndPass();
        undo();
        readingsAndDepth();
        getsAndLost();
        buts();
        range();
        unlike();
        settle();
        fair();
        toldFitsAsk();
        judgeAndRuled();
        forget();
        few();
        compare();
        yearsAndDrawn();
        imageAndBack();
        count();
        status();
        refusedInOrder();
        CHECK.finish();
    }

    private static void due(String call, long got, long want) {
        CHECK.due(call, got, want);
    }

    private static CommaWill withLaw(String sentence, String text) {
        CommaWill x = will(sentence);
        due("law of " + text, law(x, text), 0);
        x.force(0);
        return x;
    }

    private static void aNewObject() {
        CommaWill x = new CommaWill();
        int[] due = {0, 6, 0, 0, 0, 0, 0, 0, 0, 0, 0, 0, -1, 0, 1000, 0, 1};
        for (int what = 0; what < due.length; what++) {
            due("new: count " + what, x.count(what), due[what]);
        }
        due("new: fault", x.fault(), -1);
        due("new: stopped", x.stopped(), -1);
        due("new: blots", x.blots(), 0);
        due("new: status", x.status(), 0);
        due("new: drawn", x.drawn(0), -1);
        due("new: readings", x.readings(), 0);
        due("new: unlike", x.unlike(), 0);
        due("new: fits", x.fits(-1), 0);
        due("new: gets", x.gets(0, 0), -1);
        due("new: depth", x.depth(0, 0), -1);
        due("new: settle", x.settle(0, 0), -1);
        due("new: compare", x.compare(-1, 0, 0), -1);
        for (int p = 0; p < 6; p++) {
            due("new: living", x.of(p, 0), 1);
            due("new: named", x.of(p, 1), 0);
            due("new: barred", x.of(p, 2), 0);
        }
    }

    private static void name() {
        CommaWill x = new CommaWill();
        due("first, a kind", x.name(1, 0, 0), -1);
        due("first, a mark", x.name(0, 1, 0), -1);
        due("first", x.name(0, 0, 5), 0);
        due("kind -1", x.name(-1, 0, 0), -1);
        due("kind 3", x.name(3, 0, 0), -1);
        due("mark -1", x.name(0, -1, 0), -1);
        due("mark 4", x.name(0, 4, 0), -1);
        due("person -1", x.name(0, 0, -1), -1);
        due("person 6", x.name(0, 0, 6), -1);
        for (int i = 1; i < 7; i++) {
            due("name", x.name(i % 3, i % 4, 5), i);
        }
        due("the eighth", x.name(0, 0, 0), -5);
        due("the eighth, a number that can't be", x.name(0, 0, 6), -1);
        due("names", x.count(0), 7);
        due("times", x.of(5, 1), 7);
    }

    private static void whoAndJoin() {
        CommaWill x = will("3&14|25!30");
        due("who 0", x.who(0), 3);
        due("who 1", x.who(1), 4);
        due("who 2", x.who(2), 5);
        due("who 3", x.who(3), 0);
        due("who 4", x.who(4), -1);
        due("who -1", x.who(-1), -1);
        due("kind 0", x.join(0, 0), AND);
        due("kind 1", x.join(1, 0), OR);
        due("kind 2", x.join(2, 0), BUT);
        due("mark 0", x.join(0, 1), 1);
        due("mark 1", x.join(1, 1), 2);
        due("mark 2", x.join(2, 1), 3);
        due("join 3", x.join(3, 0), -1);
        due("join -1", x.join(-1, 1), -1);
        due("what 2", x.join(0, 2), -1);
        due("what -1", x.join(0, -1), -1);
        due("one name, no join", will("0").join(0, 0), -1);
    }

    private static void of() {
        CommaWill x = withLaw("0&1&0", "bars if times = 2; bars if heir > 4");
        due("living", x.of(0, 0), 1);
        due("twice", x.of(0, 1), 2);
        due("once", x.of(1, 1), 1);
        due("never", x.of(2, 1), 0);
        due("barred by times", x.of(0, 2), 1);
        due("not barred", x.of(1, 2), 0);
        due("barred by heir, not named", x.of(5, 2), 1);
        x.die(0);
        due("dead", x.of(0, 0), 0);
        due("dead and barred", x.of(0, 2), 1);
        x.force(-1);
        due("no law", x.of(0, 2), 0);
        due("person 6", x.of(6, 0), -1);
        due("person -1", x.of(-1, 0), -1);
        due("what 3", x.of(0, 3), -1);
        due("what -1", x.of(0, -1), -1);
    }

    private static void terms() {
        CommaWill x = new CommaWill();
        int[] most = {999, 9999, 9, 10};
        int[] were = {0, 1000, 0, 1};
        for (int what = 0; what < 4; what++) {
            due("too much", x.terms(what, most[what] + 1), -1);
            due("below 0", x.terms(what, -1), -1);
            due("was", x.terms(what, most[what]), were[what]);
            due("is", x.count(13 + what), most[what]);
            due("was the most", x.terms(what, 0), most[what]);
        }
        due("what 4", x.terms(4, 0), -1);
        due("what -1", x.terms(-1, 0), -1);
    }

    private static void feedAndEnd() {
        CommaWill x = new CommaWill();
        for (int i = 1; i <= 20; i++) {
            due("feed", x.feed(-1, 0, 0, 0, 0), 20 * i);
        }
        due("the 401st", x.feed(0, 0, 0, 0, 0), -1);
        due("bytes", x.count(6), 400);
        due("end beyond", x.end(401), -1);
        due("end below", x.end(-1), -1);
        due("end all", x.end(400), 400);
        due("end 381", x.end(381), 381);
        due("no room for twenty", x.feed(0, 0, 0, 0, 0), -1);
        due("end 380", x.end(380), 380);
        due("room for twenty", x.feed(0, 0, 0, 0, 0), 400);
        due("end 0", x.end(0), 0);
        due("end 1 of none", x.end(1), -1);
        due("status is not theirs", x.status(), 0);
        due("nor is a refusal", x.count(7), 0);
    }

    private static void rowAndBlots() {
        CommaWill x = new CommaWill();
        due("no bytes", x.row(), -6);
        putBytes(x, 1, 0, 2, 0, 1, 2, 0, 0, 2, 1, 3, 5, 0, 0, 255);
        due("two came", x.row(), 2);
        due("three blots", x.blots(), 3);
        due("the tape is empty", x.count(6), 0);
        due("the first that can be is the first", x.who(0), 2);
        due("kind", x.join(0, 0), 1);
        due("mark", x.join(0, 1), 3);
        due("no bytes again", x.row(), -6);
        due("blots stay", x.blots(), 3);
        putBytes(x, 0, 0, 0, 0, 0, 0, 0, 0, 0, 0, 0, 0, 0, 0, 0, 0, 0, 0, 0, 0);
        due("five have room", x.row(), 5);
        due("one has none, one ends within", x.blots(), 2);
        putBytes(x, 0);
        due("one byte", x.row(), 0);
        due("one blot", x.blots(), 1);
        due("seven", x.count(0), 7);
        x = new CommaWill();
        putBytes(x, 0, 0, 1, 0, 0, 2);
        x.end(5);
        due("what the tape had counts not", x.row(), 1);
        due("the second ends within", x.blots(), 1);
    }

    private static void law() {
        CommaWill x = new CommaWill();
        due("empty", x.law(), -6);
        due("fault at the end", x.fault(), 0);
        due("blanks", law(x, "   "), -6);
        due("fault at the end", x.fault(), 3);
        for (int i = 0; i < 6; i++) {
            due("law", law(x, "bars"), i);
            due("no fault", x.fault(), -1);
            due("empty tape", x.count(6), 0);
        }
        law(x, "x");
        due("the seventh", law(x, "x"), -5);
        due("it was not read", x.fault(), -1);
        due("the tape is empty", x.count(6), 0);
        due("six", x.count(4), 6);
    }

    private static void lawFault(String text, int place) {
        CommaWill x = new CommaWill();
        due("law: " + text, law(x, text), place < 0 ? 0 : -6);
        due("fault: " + text, x.fault(), place);
        due("tape: " + text, x.count(6), 0);
    }

    private static void ordersFault(String text, int place) {
        CommaWill x = will("0&1");
        int answer = orders(x, text);
        due("orders: " + text, answer == -6 ? 1 : 0, place < 0 ? 0 : 1);
        due("fault: " + text, x.fault(), place);
        due("tape: " + text, x.count(6), 0);
    }

    private static void faultsOfBothLanguages() {
        lawFault("shares 1", -1);
        lawFault("  shares1 ; bars  ", -1);
        lawFault("shares left+right*worth/heir%times-year+mood+join", -1);
        lawFault("shares [left] if not(left<right)and left=1 or right>2", -1);
        lawFault("shares 1 ;", 10);
        lawFault("shares 1 ; ", 11);
        lawFault(";", 0);
        lawFault("bars;;bars", 5);
        lawFault("bars bars", 5);
        lawFault("barsif", 0);
        lawFault("Bars", 0);
        lawFault("bars\tif 1=1", 4);
        lawFault("shares 1000", -1);
        lawFault("shares 0001000", -1);
        lawFault("shares 1001", 7);
        lawFault("shares 99999999999999999999", 7);
        lawFault("shares -1", 7);
        lawFault("shares 1 +", 10);
        lawFault("shares 1 2", 9);
        lawFault("shares done", 7);
        lawFault("shares latest", 7);
        lawFault("shares mark 1", 7);
        lawFault("shares [1", 9);
        lawFault("shares [1)", 9);
        lawFault("shares 1]", 8);
        lawFault("bars if (1=1", 12);
        lawFault("bars if (1=1]", 12);
        lawFault("bars if 1=1)", 11);
        lawFault("bars if (1)=1", 10);
        lawFault("bars if 1", 9);
        lawFault("bars if 1<2<3", 11);
        lawFault("bars if 1<>3", 10);
        lawFault("bars if not", 11);
        lawFault("bars if not not 1=1", -1);
        lawFault("bars if 1=1 and", 15);
        lawFault("bars if 1=1 and or 1=1", 16);
        lawFault("bars if 1=1 if 1=1", 12);
        lawFault("bars if 1=1 orz 1=1", 12);
        lawFault("bars if 1=1 zor 1=1", 12);
        lawFault("bars if 1=1 or1=1", -1);
        lawFault("bars if 1=1or 1=1", -1);
        lawFault("bars if", 7);
        lawFault("bars 1", 5);
        lawFault("shares if 1=1", 7);
        lawFault("shares 1 times 2", 9);
        lawFault("pass", 0);
        lawFault("bars" + (char) 200, 4);
        ordersFault("pass", -1);
        ordersFault("", 0);
        ordersFault("  ", 2);
        ordersFault("mark 0 as 1 times 20 if year=done", -1);
        ordersFault("pass times 1 if living = 6", -1);
        ordersFault("pass times 0", 11);
        ordersFault("pass times 21", 11);
        ordersFault("pass times 020 if 0=1", -1);
        ordersFault("pass times", 10);
        ordersFault("pass times year", 11);
        ordersFault("pass times [1]", 11);
        ordersFault("pass if 1=1 times 2", 12);
        ordersFault("pass 1", 5);
        ordersFault("die", 3);
        ordersFault("die heir", 4);
        ordersFault("die times", 4);
        ordersFault("die mark", 8);
        ordersFault("die mark 6", 9);
        ordersFault("die mark 005", -1);
        ordersFault("die mark [1]", 9);
        ordersFault("die kind 0 + mark 5", -1);
        ordersFault("die kind 6", 9);
        ordersFault("mark 0 to 1", 7);
        ordersFault("turn 0 as 1", 7);
        ordersFault("mark 0 as", 9);
        ordersFault("mark as 1", 5);
        ordersFault("bars", 0);
        ordersFault("mark mark 0 as mark 0 + 1", -1);
    }

    private static void limitsOfTexts() {
        String twelve = "bars" + ";bars".repeat(11);
        lawFault(twelve, -1);
        lawFault(twelve + ";bars", 60);
        lawFault(twelve + ";  x", 62);
        lawFault(twelve + ";", 60);
        ordersFault("pass" + ";pass".repeat(11), -1);
        ordersFault("pass" + ";pass".repeat(12), 60);
        String fifty = "shares 1" + "+1".repeat(49);
        lawFault(fifty, -1);
        lawFault(fifty + "+year", 107);
        lawFault(fifty + ";bars", -1);
        lawFault(fifty + ";bars if 1=1", 115);
        lawFault("shares [[[[[[[[1]]]]]]]]", -1);
        lawFault("shares [[[[[[[[[1]]]]]]]]]", 15);
        lawFault("bars if ((((([[[1]]]=1)))))", -1);
        lawFault("bars if ((((([[[[1]]]]=1)))))", 16);
        lawFault("bars if ((((((((1=1))))))))", -1);
        lawFault("bars if (((((((((1=1)))))))))", 16);
        lawFault("shares [1]+[1]+[1]+[1]+[1]+[1]+[1]+[1]+[1]+[[1]]", -1);
        ordersFault("die mark 0" + "+mark 0".repeat(49) + "times 2 if 0=1", 364);
        ordersFault("die 0" + "*mark 0".repeat(49) + " times 2", -1);
        lawFault("bars if " + "not ".repeat(97) + "1=", 398);
        lawFault("bars if " + "not ".repeat(97) + "1=1", -1);
    }

    /** What "shares" tells is seen in what person 0 of two gets of 100. */
    private static void tells(String sum, int due) {
        CommaWill x = will("0&1");
        x.terms(1, 100);
        due("law: shares " + sum, law(x, "shares " + sum), 0);
        x.force(0);
        due("shares " + sum, x.gets(0, 0), due);
    }

    private static void sumsAndTests() {
        tells("7", 7);
        tells("2+3*4", 14);
        tells("[2+3]*4", 20);
        tells("20-5-3", 12);
        tells("100/7/2", 7);
        tells("100%7*3", 6);
        tells("7-[0-7]/2", 10);
        tells("[0-7]%4+10", 7);
        tells("7%[0-4]+10", 13);
        tells("0-1", 0);
        tells("101", 100);
        tells("1/0", 50);
        tells("1%0", 50);
        tells("0/5+9", 9);
        tells("1000*1000*1000", 100);
        tells("1000*1000*1000+1", 50);
        tells("0-1000*1000*1000", 0);
        tells("0-1000*1000*1000-1", 50);
        tells("1000*1000*1000*1000/1000/1000/1000", 50);
        tells("5;shares 6", 6);
        tells("5;shares 1/0", 5);
        tells("5;shares 6 if 1/0=0", 5);
        tells("5;shares 6 if not 1/0=0", 5);
        tells("6 if 1<2", 6);
        tells("6 if 2<1", 50);
        tells("6 if 2>1", 6);
        tells("6 if 1>2", 50);
        tells("6 if 2=2", 6);
        tells("6 if not 2=2", 50);
        tells("6 if not not 2=2", 6);
        tells("6 if 1=1 or 1/0=1", 6);
        tells("6 if 1=2 or 1/0=1", 50);
        tells("6 if 1/0=1 or 1=1", 50);
        tells("6 if 1=2 and 1/0=1 or 1=1", 6);
        tells("6 if 1=1 and 1/0=1 or 1=1", 50);
        tells("6 if 1=1 or 1=1 and 1=2", 6);
        tells("6 if (1=1 or 1=1) and 1=2", 50);
        tells("6 if not (1=2 and 1/0=0)", 6);
        tells("6 if not 1=2 and 1=1", 6);
        tells("6 if 1=2 or 1=2 or 1=1", 6);
        tells("6 if 1=1 and 1=1 and 1=2", 50);
        tells("join+left*10+right*20", 30);
        tells("worth", 100);
        tells("worth-heir", 100);
        tells("10+heir", 9);
        tells("10+times", 9);
        tells("year+mood*7", 0);
    }

    private static void lawsInForce() {
        CommaWill x = withLaw("0&1&2&0", "shares 10*left+right");
        due("by join 0 first, left", x.gets(0, 0), 130 + 682);
        due("taxed not", x.lost(0), 0);
        x = withLaw("0&1", "taxes worth / 100 if heir = 0; taxes 20 * times if heir = 1; shares 40");
        due("400 less 4", x.gets(0, 0), 384);
        due("600 less 20", x.gets(0, 1), 480);
        due("the rest is lost", x.lost(0), 136);
        x = withLaw("0&1", "taxes 0-5; shares 33");
        due("no tax below 0", x.gets(0, 0), 330);
        x = withLaw("0&1", "taxes 900");
        due("no tax above 100", x.gets(0, 0), 0);
        due("all is lost", x.lost(0), 1000);
        x = withLaw("0&1", "taxes 10;taxes 20;taxes 30 if join = 0");
        due("the last that holds", x.gets(0, 0), 400);
        x = withLaw("0&1", "bars if worth = 1000 and heir = 1 and join + left + right = 0 - 3");
        due("barred", x.of(1, 2), 1);
        due("all to the other", x.gets(0, 0), 1000);
        due("none to the barred", x.gets(0, 1), 0);
        x.terms(1, 999);
        due("not barred", x.of(1, 2), 0);
        due("cut", x.gets(0, 0), 499);
        due("the rest", x.gets(0, 1), 500);
        x = withLaw("0&1", "shares 10 * mood + year");
        due("mood 0", x.gets(0, 0), 0);
        x.terms(2, 9);
        x.terms(0, 5);
        due("mood 9, year 5", x.gets(0, 0), 950);
        x.pass();
        due("year 6", x.gets(0, 0), 960);
    }

    private static void orders() {
        CommaWill x = will("0&1|2!3");
        due("four", orders(x, "mark 1 as 2; turn 0 to 2; die 5; pass"), 4);
        due("marked", x.join(1, 1), 2);
        due("turned", x.join(0, 0), 2);
        due("died", x.of(5, 0), 0);
        due("passed", x.count(13), 1);
        due("undone can be", x.count(5), 4);
        due("not stopped", x.stopped(), -1);
        due("times", orders(x, "pass times 20; die done - 20 times 3 if living > 3"), 22);
        due("0, 1 died", x.count(1), 3);
        due("year", x.count(13), 21);
        due("none run", orders(x, "pass if 1/0 = 1; pass if 1 = 2"), 0);
        due("year stays", x.count(13), 21);
        due("undo keeps 16", x.count(5), 16);
        due("the tape is empty", x.count(6), 0);
    }

    private static void wordsOfOrders() {
        CommaWill x = will("0&21|12!3");
        x.terms(0, 7);
        due("words", orders(x, "pass if year = 7 and done = 0 and latest = 0 - 1 and living = 6;"
                + "pass if readings = 1 and mark 0 = 2 and mark 1 = 1 and mark 2 = 0;"
                + "pass if kind 0 = 0 and kind 1 = 1 and kind 2 = 2 and kind 3 = 0 - 1;"
                + "pass if mark 5 = 0 - 1 and year = 10 and done = 3;"
                + "mark 0 as 1; pass if latest = 2 and readings = 2;"
                + "mark 2 as 1; pass if latest = 5; die 0; pass if living = 5"), 10);
        x = will("0&1");
        due("the first that was not run counts not", orders(x, "pass if 1=2; pass if done = 0"), 1);
        x = will("0&1&2");
        due("sums see what stands", orders(x, "mark 0 as mark 0 + 1 times 3; mark 1 as mark 0"), 4);
        due("3", x.join(1, 1), 3);
        due("latest is of this text", orders(x, "pass if latest = 0 - 1"), 1);
    }

    private static void cannot(CommaWill x, String text, int clause) {
        int undone = x.count(5);
        int refused = x.count(9);
        due(text, orders(x, text), -3);
        due("stopped: " + text, x.stopped(), clause);
        due("no fault: " + text, x.fault(), -1);
        due("status: " + text, x.status(), -3);
        due("one refusal: " + text, x.count(9), refused + 1);
        due("undone as before: " + text, x.count(5), undone);
        due("mark as before", x.join(0, 1), 1);
        due("kind as before", x.join(0, 0), 0);
        due("living as before", x.count(1), 5);
        due("year as before", x.count(13), 1);
    }

    private static void ordersThatCannotBe() {
        CommaWill x = will("0&0&2");
        x.pass();
        x.mark(0, 1);
        x.die(4);
        cannot(x, "mark 0 as 2; turn 0 to 1; die 0; pass times 20; mark 2 as 1", 4);
        cannot(x, "mark 0 as 2; mark 0 as 4", 1);
        cannot(x, "mark 0 as 2; mark 0 as 2", 1);
        cannot(x, "mark 0 as 2 times 2", 0);
        cannot(x, "turn 0 to 3", 0);
        cannot(x, "turn 0 to 0", 0);
        cannot(x, "turn 2 to 1", 0);
        cannot(x, "pass; die 4", 1);
        cannot(x, "pass; die 6", 1);
        cannot(x, "pass; die 0 - 1", 1);
        cannot(x, "pass; die 1 / 0", 1);
        cannot(x, "pass; mark 0 as 1 % 0", 1);
        cannot(x, "pass; mark 1000 * 1000 * 1000 * 2 as 0", 1);
        due("undo pass, mark, die", x.undo(), 2);
        due("undo pass, mark", x.undo(), 0);
        due("mark is 0", x.join(0, 1), 0);
        due("undo pass", x.undo(), 3);
        x.terms(0, 990);
        due("pass 999 times", orders(x, "pass times 10"), -3);
        due("year", x.count(13), 990);
        due("pass to 999", orders(x, "pass times 9"), 9);
        for (int i = 0; i < 9; i++) {
            x.undo();
        }
        for (int i = 0; i < 16; i++) {
            x.turn(0, 1 - x.join(0, 0));
        }
        due("the log is full", orders(x, "pass times 5; die 9"), -3);
        for (int i = 0; i < 16; i++) {
            due("and is as it was", x.undo(), 1);
        }
        orders(x, "die 9");
        due("a fault", orders(x, "x"), -6);
        due("stopped by none", x.stopped(), -1);
    }

    private static void force() {
        CommaWill x = will("0&1");
        due("no law", x.force(0), -2);
        due("none", x.force(-1), -1);
        due("that was not refused", x.status(), 0);
        law(x, "shares 10");
        law(x, "shares 20");
        due("was none", x.force(1), -1);
        due("by 1", x.gets(0, 0), 200);
        due("was 1", x.force(0), 1);
        due("by 0", x.gets(0, 0), 100);
        due("which", x.count(12), 0);
        due("2", x.force(2), -2);
        due("-2", x.force(-2), -2);
        due("it stays", x.count(12), 0);
        due("to none", x.force(-1), 0);
        due("halves", x.gets(0, 0), 500);
    }

    private static void mark() {
        CommaWill x = will("0&1|2!3");
        due("readings", x.readings(), 5);
        due("mark 1", x.mark(1, 1), 1);
        due("mark 0", x.mark(0, 1), 2);
        due("so already", x.mark(0, 1), -3);
        due("mark 4", x.mark(0, 4), -1);
        due("mark -1", x.mark(0, -1), -1);
        due("join 3", x.mark(3, 1), -2);
        due("join -1", x.mark(-1, 1), -2);
        due("a number first", x.mark(3, 4), -1);
        due("no join", x.mark(3, 0), -2);
        due("all alike", x.mark(2, 1), 5);
        due("is", x.join(2, 1), 1);
    }

    private static void turn() {
        CommaWill x = will("0&1|2!3");
        due("was and", x.turn(0, 1), 0);
        due("was or", x.turn(1, 2), 1);
        due("was but", x.turn(2, 0), 2);
        due("so already", x.turn(2, 0), -3);
        due("kind 3", x.turn(0, 3), -1);
        due("kind -1", x.turn(0, -1), -1);
        due("join 3", x.turn(3, 0), -2);
        due("join -1", x.turn(-1, 0), -2);
        due("a number first", x.turn(3, 3), -1);
        due("is", x.join(0, 0), 1);
    }

    private static void dieAndPass() {
        CommaWill x = new CommaWill();
        due("die", x.die(5), 5);
        due("again", x.die(5), -3);
        due("6", x.die(6), -1);
        due("-1", x.die(-1), -1);
        due("die", x.die(0), 4);
        due("pass", x.pass(), 1);
        x.terms(0, 998);
        due("pass", x.pass(), 999);
        due("no more", x.pass(), -3);
        due("year", x.count(13), 999);
    }

    private static void undo() {
        CommaWill x = will("0&1|2");
        due("none", x.undo(), -3);
        x.mark(0, 3);
        x.mark(0, 1);
        x.turn(1, 2);
        x.die(2);
        x.pass();
        due("pass", x.undo(), 3);
        due("year", x.count(13), 0);
        due("die", x.undo(), 2);
        due("living", x.of(2, 0), 1);
        due("turn", x.undo(), 1);
        due("kind", x.join(1, 0), 1);
        due("mark", x.undo(), 0);
        due("mark 3", x.join(0, 1), 3);
        due("one reading", x.readings(), 1);
        due("mark", x.undo(), 0);
        due("mark 0", x.join(0, 1), 0);
        due("two readings", x.readings(), 2);
        due("none", x.undo(), -3);
        x.die(0);
        for (int i = 0; i < 16; i++) {
            x.pass();
        }
        due("16", x.count(5), 16);
        for (int i = 0; i < 16; i++) {
            due("pass", x.undo(), 3);
        }
        due("the death is no more kept", x.undo(), -3);
        due("dead", x.of(0, 0), 0);
        undoBehindOthers();
    }

    private static void undoBehindOthers() {
        CommaWill x = will("0&1|2");
        x.pass();
        x.name(0, 0, 9);
        x.terms(9, 9);
        x.row();
        x.told(0, 0);
        x.judge(0);
        x.forget();
        x.force(-1);
        x.image(0);
        x.years(1, 1);
        law(x, "bars");
        due("still there", x.count(5), 1);
        x.name(0, 0, 0);
        due("behind name", x.undo(), -3);
        x.pass();
        x.terms(3, 1);
        due("behind terms", x.undo(), -3);
        x.pass();
        putBytes(x, 9);
        x.row();
        due("behind row", x.undo(), -3);
        x.pass();
        x.back(1);
        due("behind no back", x.count(5), 1);
        x.back(0);
        due("behind back", x.undo(), -3);
    }

    private static void readingsAndDepth() {
        int[] catalan = {1, 1, 2, 5, 14, 42, 132};
        CommaWill x = new CommaWill();
        for (int i = 0; i < 7; i++) {
            x.name(0, 0, 0);
            due("readings", x.readings(), catalan[i]);
        }
        for (int j = 0; j < 6; j++) {
            due("the first leans to the right", x.depth(0, j), j);
            due("the last leans to the left", x.depth(131, j), 5 - j);
        }
        due("reading 132", x.depth(132, 0), -1);
        due("reading -1", x.depth(-1, 0), -1);
        due("join 6", x.depth(0, 6), -1);
        due("join -1", x.depth(0, -1), -1);
        int[][] five = {{0, 1, 2}, {0, 2, 1}, {1, 0, 1}, {1, 2, 0}, {2, 1, 0}};
        x = will("0&1&2&3");
        for (int r = 0; r < 5; r++) {
            for (int j = 0; j < 3; j++) {
                due("depth " + r + " " + j, x.depth(r, j), five[r][j]);
            }
        }
        x = will("0&21&12&23&14");
        due("marks 2 1 2 1", x.readings(), 2);
        due("top 0", x.depth(0, 0), 0);
        due("then 2", x.depth(0, 2), 1);
        due("then 1", x.depth(0, 1), 2);
        due("then 3", x.depth(0, 3), 2);
        due("top 2", x.depth(1, 2), 0);
        due("then 0", x.depth(1, 0), 1);
        due("then 1", x.depth(1, 1), 2);
        due("then 3", x.depth(1, 3), 1);
        due("one name", will("0").depth(0, 0), -1);
    }

    private static void getsAndLost() {
        CommaWill x = will("0&1&2");
        int[][] rows = {{500, 250, 250, 0, 0, 0}, {250, 250, 500, 0, 0, 0}};
        for (int r = 0; r < 2; r++) {
            for (int p = 0; p < 6; p++) {
                due("gets", x.gets(r, p), rows[r][p]);
            }
            due("lost", x.lost(r), 0);
        }
        due("reading 2", x.gets(2, 0), -1);
        due("reading -1", x.gets(-1, 0), -1);
        due("person 6", x.gets(0, 6), -1);
        due("person -1", x.gets(0, -1), -1);
        due("lost 2", x.lost(2), -1);
        due("lost -1", x.lost(-1), -1);
        x.terms(1, 5);
        due("the left is cut", x.gets(0, 0), 2);
        due("the rest", x.gets(0, 1), 1);
        due("the rest of the rest", x.gets(0, 2), 2);
        x.die(0);
        due("all to the others", x.gets(0, 1), 2);
        x.die(1);
        x.die(2);
        due("all is lost", x.lost(0), 5);
        x = will("0|1&0");
        due("twice", x.gets(0, 0), 1000);
        due("once and the rest", x.gets(1, 0), 1000);
        x.die(0);
        due("or", x.gets(0, 1), 1000);
        due("none", x.gets(0, 0), 0);
    }

    private static void buts() {
        CommaWill x = will("0&10!1&1");
        due("a person alone, 0 but 0", will("0!0").lost(0), 1000);
        due("left out, reading 0: 0 and (0 but (1 and 1))", x.gets(0, 0), 1000);
        x = will("0&1!0");
        due("0 and (1 but 0)", x.gets(0, 0), 500);
        due("(0 and 1) but 0", x.gets(1, 0), 0);
        due("all to 1", x.gets(1, 1), 1000);
        x = will("0&1!2!0");
        due("0: 0 and (1 but (2 but 0))", x.gets(0, 0), 500);
        due("2: (0 and 1) but (2 but 0): all named on the right", x.gets(2, 0), 0);
        due("4: ((0 and 1) but 2) but 0", x.gets(4, 1), 1000);
        x = will("0!1|1");
        due("0: 0 but (1 or 1)", x.gets(0, 0), 1000);
        x.die(0);
        due("0: the left takes not", x.lost(0), 1000);
        due("1: (0 but 1) or 1", x.gets(1, 1), 1000);
        x = will("0|1!0|2");
        due("2: (0 or 1) but (0 or 2): too", x.gets(2, 1), 1000);
        due("1: 0 or ((1 but 0) or 2)", x.gets(1, 0), 1000);
        x = will("0!1!2&0");
        x.mark(1, 1);
        due("(0 but 1) but (2 and 0): left out by an upper but", x.gets(0, 0), 0);
        due("lost", x.lost(0), 1000);
    }

    private static void range() {
        CommaWill x = will("0&1&2");
        due("least", x.range(0, 0), 250);
        due("most", x.range(0, 1), 500);
        due("where", x.range(0, 2), 0);
        due("where of 2", x.range(2, 2), 1);
        due("the lowest", x.range(1, 2), 0);
        due("nobody", x.range(5, 1), 0);
        due("where of nobody", x.range(5, 2), 0);
        due("what 3", x.range(0, 3), -1);
        due("what -1", x.range(0, -1), -1);
        due("person 6", x.range(6, 0), -1);
        due("person -1", x.range(-1, 0), -1);
        due("no readings", new CommaWill().range(0, 2), -1);
    }

    private static void unlike() {
        due("two", will("0&1&2").unlike(), 2);
        due("one", will("0|1|2").unlike(), 1);
        due("one name", will("0").unlike(), 1);
        due("no name", new CommaWill().unlike(), 0);
        CommaWill x = will("0&1&2&3");
        due("five", x.unlike(), 5);
        x.mark(1, 1);
        due("one by a mark", x.unlike(), 1);
        due("all alike by one person", will("0&0&0&0&0&0&0").unlike(), 1);
    }

    private static void settle() {
        CommaWill x = will("0&1&2&3&4&5");
        due("a chain of five needs five marks", x.settle(0, 0), -1);
        due("none, so no mark", x.settle(0, 1), -1);
        x = will("0&1&2&3&4");
        due("3 2 1 0", x.settle(0, 0), 6);
        int[] chain = {3, 2, 1, 0};
        for (int j = 0; j < 4; j++) {
            due("mark then", x.settle(0, 1 + j), chain[j]);
        }
        due("no join 4", x.settle(0, 5), -1);
        due("what -1", x.settle(0, -1), -1);
        due("reading 14", x.settle(14, 0), -1);
        due("reading -1", x.settle(-1, 0), -1);
        x.mark(3, 1);
        due("marks stay", x.join(0, 1), 0);
        due("none less than now: 0 0 0 1 has five", x.readings(), 5);
        due("its first wants 2 1 0 3", x.settle(0, 0), 5);
        due("of the first", x.settle(0, 1), 2);
        due("of the last", x.settle(0, 4), 3);
        x = will("0|1|2");
        due("settled already", x.settle(1, 0), 0);
        due("as now", x.settle(1, 1), 0);
        x = will("0&1&2");
        x.mark(0, 2);
        due("settled by a mark", x.settle(0, 0), 0);
        due("as now", x.settle(0, 1), 2);
        x.mark(1, 2);
        due("one of two", x.settle(1, 0), 1);
        due("mark 2", x.settle(1, 2), 3);
        x.mark(0, 3);
        x.mark(1, 3);
        due("no mark is above 3", x.settle(0, 0), -1);
        due("one name", will("0").settle(0, 0), 0);
        due("one name has no join", will("0").settle(0, 1), -1);
        settleByTheFirstRow();
    }

    private static void settleByTheFirstRow() {
        CommaWill x = will("0|1|2&3");
        // The last JOIN above, or one OR above with all to 0: readings differ in who shares with 3.
        due("0 alone, reading 0", x.gets(0, 0), 1000);
        due("0 and 3, reading 4", x.gets(4, 0), 500);
        due("an or above", x.settle(0, 0), 1);
        due("the first row: 0 1 0", x.settle(0, 1), 0);
        due("the first row: 0 1 0", x.settle(0, 2), 1);
        due("the and above", x.settle(4, 0), 1);
        due("the first row: 0 0 1", x.settle(4, 3), 1);
    }

    private static void fair() {
        CommaWill x = will("0&1&2&3");
        due("by twos", x.fair(0), 2);
        due("250", x.fair(1), 250);
        due("what 2", x.fair(2), -1);
        due("what -1", x.fair(-1), -1);
        x.die(0);
        due("the dead count not", x.fair(1), 250);
        due("the lowest", x.fair(0), 0);
        x.die(1);
        x.die(2);
        due("all to one", x.fair(1), 1000);
        due("the first", x.fair(0), 0);
        x.die(3);
        due("nobody named is fit", x.fair(0), -1);
        due("nobody named is fit", x.fair(1), -1);
        due("no readings", new CommaWill().fair(0), -1);
        x = withLaw("0&1&2", "bars if heir = 0");
        due("the barred count not", x.fair(1), 500);
        x = will("0!1");
        due("one left out is fit and named", x.fair(1), 0);
        due("the first", x.fair(0), 0);
    }

    private static void toldFitsAsk() {
        CommaWill x = will("0&1&2&3");
        due("all fit", x.fits(-1), 5);
        due("the i-th", x.fits(4), 4);
        due("no more", x.fits(5), -1);
        due("-2", x.fits(-2), -1);
        due("whom", x.ask(0), 0);
        due("left", x.ask(1), 2);
        due("told", x.told(0, 250), 1);
        due("two fit", x.fits(-1), 2);
        due("the first", x.fits(0), 2);
        due("the second", x.fits(1), 3);
        due("no more", x.fits(2), -1);
        due("0 gets alike, 1 alike, 2 not", x.ask(0), 1);
        due("left", x.ask(1), 1);
        due("told", x.told(0, 250), 2);
        due("still two", x.fits(-1), 2);
        due("told", x.told(0, 251), 3);
        due("none fits", x.fits(-1), 0);
        due("none fits", x.fits(0), -1);
        due("none to ask", x.ask(0), -1);
        due("none to ask", x.ask(1), -1);
        due("told the most", x.told(5, 9999), 4);
        due("told the least", x.told(5, 0), 5);
        due("told", x.told(5, 0), 6);
        due("no room", x.told(5, 0), -5);
        due("a number first", x.told(6, 0), -1);
        due("-1", x.told(-1, 0), -1);
        due("too much", x.told(0, 10000), -1);
        due("below 0", x.told(0, -1), -1);
        due("what 2", will("0").ask(2), -1);
        due("what -1", will("0").ask(-1), -1);
        due("the lowest person", will("3").ask(0), 0);
    }

    private static void judgeAndRuled() {
        CommaWill x = will("0&1&2");
        due("no judge", x.ruled(0), -1);
        due("judge", x.judge(0), 1);
        due("one rules", x.ruled(0), 500);
        due("judge", x.judge(1), 2);
        due("half is not more", x.ruled(0), -1);
        due("both give 1 alike", x.ruled(1), 250);
        due("judge", x.judge(131), 3);
        due("two of three", x.ruled(1), 250);
        due("judge", x.judge(2), 4);
        due("two of four", x.ruled(1), -1);
        due("judge", x.judge(0), 5);
        due("three of five", x.ruled(1), 250);
        due("no room", x.judge(0), -5);
        due("132", x.judge(132), -1);
        due("-1", x.judge(-1), -1);
        due("person 6", x.ruled(6), -1);
        due("person -1", x.ruled(-1), -1);
        due("nobody's share", x.ruled(5), 0);
        x.mark(0, 1);
        due("readings are fewer then: two of five", x.ruled(1), -1);
    }

    private static void forget() {
        CommaWill x = new CommaWill();
        due("none", x.forget(), 0);
        x.told(0, 0);
        x.told(0, 0);
        x.judge(0);
        due("three", x.forget(), 3);
        due("no told", x.count(2), 0);
        due("no judges", x.count(3), 0);
        due("none", x.forget(), 0);
        due("room again", x.judge(5), 1);
    }

    private static void few() {
        CommaWill x = new CommaWill();
        due("none of one", x.few(1, 1), 900_000_000_000L);
        due("none of none", x.few(1, 0), 1_000_000_000_000L);
        due("below 20 of none", x.few(20, 0), 1_000_000_000_000L);
        due("none of twelve", x.few(1, 12), 282_429_536_481L);
        due("none of thirteen, cut", x.few(1, 13), 254_186_582_832L);
        due("none of fourteen, cut", x.few(1, 14), 228_767_924_548L);
        due("at most one of twelve", x.few(2, 12), 659_002_251_789L);
        due("k 0", x.few(0, 1), -1);
        due("k 21", x.few(21, 1), -1);
        due("n -1", x.few(1, -1), -1);
        due("n 100", x.few(1, 100), -1);
        x.terms(3, 5);
        due("halves", x.few(1, 3), 125_000_000_000L);
        due("halves", x.few(2, 3), 500_000_000_000L);
        x.terms(3, 0);
        due("never", x.few(1, 99), 1_000_000_000_000L);
        x.terms(3, 10);
        due("always", x.few(20, 20), 0);
        due("always", x.few(20, 19), 1_000_000_000_000L);
    }

    private static void compare() {
        CommaWill x = will("0&1");
        law(x, "shares 10");
        law(x, "bars if heir = 0");
        x.force(0);
        due("in force", x.gets(0, 0), 100);
        due("the same", x.compare(0, 0, 0), 100);
        due("another", x.compare(1, 0, 0), 0);
        due("another", x.compare(1, 0, 1), 1000);
        due("none", x.compare(-1, 0, 0), 500);
        due("in force as before", x.gets(0, 0), 100);
        due("which", x.count(12), 0);
        due("law 2", x.compare(2, 0, 0), -1);
        due("law -2", x.compare(-2, 0, 0), -1);
        due("reading 1", x.compare(0, 1, 0), -1);
        due("reading -1", x.compare(0, -1, 0), -1);
        due("person 6", x.compare(0, 0, 6), -1);
        due("person -1", x.compare(0, 0, -1), -1);
    }

    private static void yearsAndDrawn() {
        CommaWill x = will("0&1|2");
        due("no years yet", x.drawn(0), -1);
        due("seed -1", x.years(-1, 1), -1);
        due("seed 1000001", x.years(1000001, 1), -1);
        due("n 0", x.years(0, 0), -1);
        due("n 61", x.years(0, 61), -1);
        due("no years yet", x.drawn(0), -1);
        // 8: s = 21169, person 1; s = 361683, fate 0.
        due("1 dies, so the readings are unlike", x.years(8, 1), 0);
        due("drawn", x.drawn(1), 0);
        due("drawn", x.drawn(0), 1);
        due("on paper", x.of(1, 0), 1);
        due("on paper", x.count(13), 0);
        due("person 6", x.drawn(6), -1);
        due("person -1", x.drawn(-1), -1);
        due("refused", x.years(0, 0), -1);
        due("the latest stay", x.drawn(1), 0);
        x.die(1);
        // 2: s = 14551, person 1; s = 62050, fate 1.
        due("1 lives again, on paper", x.years(2, 1), 1);
        due("drawn", x.drawn(1), 1);
        due("dead", x.of(1, 0), 0);
        x.undo();
        x.terms(0, 999);
        due("no year", x.years(1, 60), 0);
        due("as now", x.drawn(1), 1);
        due("no more than two", will997(), 2);
        due("of no names unlike is 0", new CommaWill().years(1000000, 60), 60);
        yearsByLaw();
    }

    private static int will997() {
        CommaWill x = new CommaWill();
        x.terms(0, 997);
        return x.years(5, 60);
    }

    private static void yearsByLaw() {
        CommaWill x = withLaw("0&0&1", "bars if year < 2 and heir = 0");
        // 0: person 3 as it was, then person 1 LIVING.
        due("the first year has passed, 0 is barred", x.years(0, 1), 1);
        due("the second year", x.years(0, 2), 1);
        x = will("0&0&1");
        due("0 gets 750 or 500", x.years(0, 2), 0);
        x.die(2);
        int living = 0;
        x.years(12345, 60);
        for (int p = 0; p < 6; p++) {
            living += x.drawn(p);
        }
        due("by draws", living, drawnLiving(12345, 60));
    }

    private static int drawnLiving(long seed, int n) {
        long s = seed;
        boolean[] living = {true, true, false, true, true, true};
        for (int i = 0; i < n; i++) {
            s = (s * 1103 + 12345) % 1000003;
            int person = (int) (s % 6);
            s = (s * 1103 + 12345) % 1000003;
            living[person] = s % 3 == 1 || s % 3 == 2 && living[person];
        }
        int count = 0;
        for (boolean l : living) {
            count += l ? 1 : 0;
        }
        return count;
    }

    private static void imageAndBack() {
        CommaWill x = will("0&1|2");
        due("not kept", x.back(0), -2);
        due("2", x.back(2), -1);
        due("-1", x.back(-1), -1);
        due("2", x.image(2), -1);
        due("-1", x.image(-1), -1);
        law(x, "shares 10");
        x.force(0);
        x.told(0, 100);
        x.judge(0);
        x.die(5);
        due("kept", x.image(1), 0);
        due("0 is not", x.back(0), -2);
        changeAll(x);
        due("back", x.back(1), 0);
        due("names", x.count(0), 3);
        due("mark", x.join(0, 1), 0);
        due("kind", x.join(1, 0), 1);
        due("living", x.count(1), 5);
        due("told", x.count(2), 1);
        due("judges", x.count(3), 1);
        due("laws", x.count(4), 1);
        due("nothing to undo", x.count(5), 0);
        due("force", x.count(12), 0);
        due("year", x.count(13), 0);
        due("worth", x.count(14), 1000);
        due("mood", x.count(15), 0);
        due("slips", x.count(16), 1);
        due("gets", x.gets(0, 0), 100);
        due("ruled", x.ruled(0), 100);
        due("the tape stays", x.count(6), 20);
        due("the fault stays", x.fault(), 0);
        due("blots stay", x.blots(), 1);
        due("where orders stopped stays", x.stopped(), 1);
        due("years stay", x.drawn(1), 0);
        due("refusals stay", x.count(7), 4);
        due("images stay", x.back(1), 0);
        lawsOfImages();
    }

    private static void changeAll(CommaWill x) {
        orders(x, "pass; die 5");
        putBytes(x, 0, 0, 0, 9);
        x.row();
        x.mark(0, 2);
        x.turn(1, 0);
        x.die(4);
        x.forget();
        law(x, "shares 90");
        x.force(1);
        law(x, "x");
        x.pass();
        x.terms(0, 5);
        x.terms(1, 6);
        x.terms(2, 7);
        x.terms(3, 8);
        x.years(8, 1);
        x.feed(0, 0, 0, 0, 0);
    }

    private static void lawsOfImages() {
        CommaWill x = will("0&1");
        x.image(0);
        law(x, "shares 10");
        x.force(0);
        x.image(1);
        x.back(0);
        due("no laws", x.count(4), 0);
        due("no force", x.count(12), -1);
        due("another law 0", law(x, "shares 20"), 0);
        x.force(0);
        due("by it", x.gets(0, 0), 200);
        x.back(1);
        due("by the one that was kept", x.gets(0, 0), 100);
        x.terms(1, 500);
        x.image(1);
        x.terms(1, 0);
        x.back(1);
        due("kept anew", x.gets(0, 0), 50);
        x = will("0&1");
        x.told(0, 500);
        x.judge(0);
        x.image(0);
        x.forget();
        x.told(1, 250);
        x.judge(1);
        x.image(1);
        x = backToFewer(x);
        x.back(0);
        due("who", x.who(1), 1);
        due("what was told", x.fits(-1), 1);
        due("what the judge held", x.ruled(0), 500);
    }

    /** Goes on from image 0 otherwise than before, which images must not see. */
    private static CommaWill backToFewer(CommaWill x) {
        CommaWill y = new CommaWill();
        y.image(1);
        y.name(0, 0, 0);
        y.name(0, 0, 1);
        y.told(0, 500);
        y.judge(0);
        y.image(0);
        y.back(1);
        y.name(0, 0, 5);
        y.name(1, 3, 4);
        y.told(3, 3);
        y.judge(77);
        due("the other one stays apart", x.fits(-1), 0);
        due("its judge holds no reading", x.ruled(0), -1);
        return y;
    }

    private static void count() {
        CommaWill x = will("0&1");
        x.name(9, 9, 9);
        x.told(9, 9);
        x.mark(5, 0);
        x.force(7);
        x.back(0);
        x.undo();
        x.row();
        x.law();
        x.orders();
        for (int i = 0; i < 7; i++) {
            x.judge(0);
        }
        int[] due = {2, 6, 0, 5, 0, 0, 0, 2, 3, 1, 2, 3, -1, 0, 1000, 0, 1};
        for (int what = 0; what < due.length; what++) {
            due("count " + what, x.count(what), due[what]);
        }
        due("17", x.count(17), -1);
        due("-1", x.count(-1), -1);
        x.feed(0, 0, 0, 0, 0);
        x.pass();
        x.die(0);
        x.told(0, 0);
        x.forget();
        x.told(0, 0);
        due("bytes", x.count(6), 20);
        due("undo", x.count(5), 2);
        due("living", x.count(1), 5);
        due("told", x.count(2), 1);
        due("judges", x.count(3), 0);
        due("year", x.count(13), 1);
    }

    private static void status() {
        CommaWill x = new CommaWill();
        due("ahead of any", x.status(), 0);
        x.name(9, 9, 9);
        due("name", x.status(), -1);
        x.feed(0, 0, 0, 0, 0);
        x.end(99);
        x.gets(9, 9);
        x.few(0, 0);
        x.forget();
        x.count(99);
        due("others leave it", x.status(), -1);
        x.name(0, 0, 0);
        due("name", x.status(), 0);
        x.mark(0, 0);
        due("mark", x.status(), -2);
        x.terms(0, 999);
        due("terms", x.status(), 0);
        x.pass();
        due("pass", x.status(), -3);
        x.force(-1);
        due("force", x.status(), 0);
        x.law();
        due("law", x.status(), -6);
        x.die(0);
        due("die", x.status(), 0);
        x.die(0);
        due("die", x.status(), -3);
        x.told(0, 0);
        due("told", x.status(), 0);
        x.turn(0, 0);
        due("turn", x.status(), -2);
        x.judge(0);
        due("judge", x.status(), 0);
        x.judge(132);
        due("judge", x.status(), -1);
        x.undo();
        due("undo", x.status(), 0);
        x.undo();
        due("undo", x.status(), -3);
        x.years(0, 1);
        due("years", x.status(), 0);
        x.years(0, 0);
        due("years", x.status(), -1);
        x.image(0);
        due("image", x.status(), 0);
        x.image(2);
        due("image", x.status(), -1);
        x.back(0);
        due("back", x.status(), 0);
        x.back(1);
        due("back", x.status(), -2);
        orders(x, "pass if 1 = 2");
        due("orders", x.status(), 0);
        orders(x, "die 9");
        due("orders", x.status(), -3);
        putBytes(x, 0);
        x.row();
        due("row", x.status(), 0);
        x.row();
        due("row", x.status(), -6);
        law(x, "bars");
        due("law", x.status(), 0);
    }

    private static void refusedInOrder() {
        CommaWill x = will("0&1|2!3&4|5!0");
        for (int i = 0; i < 6; i++) {
            x.told(0, 0);
            x.judge(0);
            law(x, "bars");
        }
        due("name: the number first", x.name(3, 0, 0), -1);
        due("name: then room", x.name(2, 3, 5), -5);
        due("told: the number first", x.told(0, 10000), -1);
        due("told: then room", x.told(0, 9999), -5);
        due("judge: the number first", x.judge(132), -1);
        due("judge: then room", x.judge(131), -5);
        due("law: no room ahead of reading", law(x, "?"), -5);
        due("mark: the number first", x.mark(6, 9), -1);
        due("mark: then the join", x.mark(6, 0), -2);
        due("mark: then what stands", x.mark(5, 0), -3);
    }
}
