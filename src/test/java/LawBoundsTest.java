/** LAWS at their bounds, and promises 11, 15, 36. */
public final class LawBoundsTest extends Wills {
    private static final Sentences DOC = new Sentences();

    private LawBoundsTest() {
    }

    public static void main(String[] args) {
        sixLaws();
        noneInForceAtFirst();
        clauses();
        sharesIsAskedOfAnAnd();
        wordsOfShares();
        wordsOfPersons();
        yearAndMood();
        clauseThatHolds();
        sharesTell();
        taxesTake();
        cuts();
        barred();
        lawWithoutRoom();
        lawWithAFault();
        force();
        compared();
        compareNone();
        DOC.finish();
    }

    /** Laws "shares 1", "shares 2" .. */
    private static void addLaws(CommaWill x, int many) {
        for (int i = 1; i <= many; i++) {
            law(x, "shares " + i);
        }
    }

    private static void sixLaws() {
        DOC.says("LAWS, 6 at most");
        CommaWill x = will("0&1");
        for (int i = 0; i < 6; i++) {
            DOC.due("so many", x.count(4), i);
            DOC.due("a law", law(x, "shares " + (i + 1)), i);
        }
        DOC.due("the seventh", law(x, "shares 7"), -5);
        DOC.due("six", x.count(4), 6);
        for (int i = 0; i < 6; i++) {
            x.force(i);
            DOC.due("each stays as it was", x.gets(0, 0), 10 * (i + 1));
        }
    }

    private static void noneInForceAtFirst() {
        DOC.says("one is in FORCE (NONE at first: no CLAUSE)");
        CommaWill x = will("0&1");
        DOC.due("none", x.count(12), NONE);
        law(x, "shares 10;taxes 10;bars if heir = 5");
        DOC.due("a law is not in force by itself", x.count(12), NONE);
        DOC.due("halves, no taxes", x.gets(0, 0), 500);
        DOC.due("nobody is barred", x.of(5, 2), 0);
        x.force(0);
        DOC.due("by its shares, taxes", x.gets(0, 0), 90);
        DOC.due("barred", x.of(5, 2), 1);
        law(x, "shares 99");
        DOC.due("another one changes nothing", x.gets(0, 0), 90);
    }

    private static void clauses() {
        DOC.says("CLAUSE: ((\"shares\" | \"taxes\") SUM | \"bars\") [\"if\" TEST].");
        CommaWill x = new CommaWill();
        DOC.due("bars with a sum", law(x, "bars 1"), -6);
        DOC.due("fault", x.fault(), 5);
        DOC.due("shares without", law(x, "shares if 1=1"), -6);
        DOC.due("fault", x.fault(), 7);
        DOC.due("taxes without", law(x, "taxes;bars"), -6);
        DOC.due("fault", x.fault(), 5);
        DOC.due("if without a test", law(x, "bars if"), -6);
        DOC.due("fault", x.fault(), 7);
        DOC.due("an if ahead", law(x, "if 1=1 bars"), -6);
        DOC.due("fault", x.fault(), 0);
        DOC.due("all with an if", law(x, "shares 1 if 1=1;taxes 1 if 1=1;bars if 1=1"), 0);
        DOC.due("all without", law(x, "shares 1;taxes 1;bars"), 1);
    }

    private static void sharesIsAskedOfAnAnd() {
        DOC.says("\"shares\" is asked of a JOIN that is an AND");
        CommaWill x = lawful("0&1|2&3", "shares 10");
        DOC.due("0 and (1 or (2 and 3))", x.gets(0, 0), 100);
        DOC.due("an or is not shared", x.gets(0, 1), 900);
        DOC.due("(0 and 1) or (2 and 3)", x.gets(2, 1), 900);
        x.turn(0, BUT);
        DOC.due("nor is a but", x.gets(0, 0), 1000);
        x.turn(0, AND);
        x.die(0);
        DOC.due("nor an and of which one side takes not", x.gets(0, 1), 1000);
    }

    private static void wordsOfShares() {
        DOC.says("(left, right: how many NAMES the pieces to its left and right have; worth: what is shared there; heir, times -1)");
        CommaWill x = lawful("0&1&2&3&4&5&0", "shares left * 10 + right");
        DOC.due("left 1, right 6, then 5 of the rest", x.gets(0, 1), 840 * 15 / 100);
        DOC.due("left 6, right 1, then 5 of 610", x.gets(131, 5), 610 - 610 * 51 / 100);
        x = lawful("0&1&2", "shares worth / 20");
        DOC.due("half of 1000", x.gets(0, 0), 500);
        DOC.due("a quarter of 500", x.gets(0, 1), 125);
        DOC.due("the rest", x.gets(0, 2), 375);
        x = lawful("0&1", "shares 20 + heir * 3 + times * 5");
        DOC.due("20 - 3 - 5", x.gets(0, 0), 120);
        x = lawful("0&0&0&0&0&0&1", "shares 10 + join * 3");
        DOC.due("join 0 on top", x.gets(0, 1), 1000 - lostOnTheWay());
        x = lawful("0&1&2&3&4&5&0", "shares 50 + join");
        DOC.due("join 5 on top", x.gets(131, 0), 450 + 550 * 54 / 100 * 53 / 100 * 52 / 100 * 51 / 100
                * 50 / 100);
        DOC.due("join 0 on top", x.gets(0, 1), 500 * 51 / 100);
    }

    /** What those ahead of the last name have by 10, 13, 16, 19, 22, 25 of each 100. */
    private static int lostOnTheWay() {
        int rest = 1000;
        for (int j = 0; j < 6; j++) {
            rest -= rest * (10 + 3 * j) / 100;
        }
        return 1000 - rest;
    }

    private static void wordsOfPersons() {
        DOC.says("\"taxes\", \"bars\" of a PERSON (heir: its number; times: how often the WILL has it;"
                + " join, left, right -1; worth: for \"taxes\" what it would get, for \"bars\" WORTH)");
        DOC.due("person 5", lawful("5", "taxes heir * 10").gets(0, 5), 500);
        DOC.due("person 0", lawful("0", "taxes heir * 10").gets(0, 0), 1000);
        DOC.due("seven times", lawful("0&0&0&0&0&0&0", "taxes times").gets(0, 0), 930);
        DOC.due("join, left, right", lawful("0&1", "taxes 20 + join + left * 2 + right * 4").gets(0, 0),
                500 - 65);
        DOC.due("what it would get", lawful("0&1", "taxes worth / 100").gets(0, 0), 475);
        DOC.due("all that together", lawful("0&1&0", "taxes worth / 100").gets(0, 0), 750 - 52);
        CommaWill x = lawful("0&1&1", "bars if heir = 4 or times = 2 or times = 0 and heir = 5");
        int[] due = {0, 1, 0, 0, 1, 1};
        for (int p = 0; p < 6; p++) {
            DOC.due("barred " + p, x.of(p, 2), due[p]);
        }
        x = lawful("0&1", "bars if join + left * 10 + right * 100 = 0 - 111");
        DOC.due("join, left, right", x.of(0, 2), 1);
        x = lawful("0&1", "bars if worth = 1000 and heir = 0");
        DOC.due("by WORTH", x.of(0, 2), 1);
        x.terms(1, 500);
        DOC.due("not by what it would get", x.of(0, 2), 0);
        x = lawful("0&1", "bars if worth = 500 and heir = 0");
        DOC.due("not by what it would get", x.of(0, 2), 0);
    }

    private static void yearAndMood() {
        DOC.says("Words: \"join\" | \"left\" | \"right\" | \"worth\" | \"heir\" | \"times\" | \"year\" | \"mood\".");
        CommaWill x = lawful("0&1", "shares mood * 10 + year % 10; taxes year / 100; bars if heir + mood = 10");
        DOC.due("at first", x.gets(0, 1), 1000);
        x.terms(2, 9);
        x.terms(0, 999);
        DOC.due("99 of 100, 1 is barred", x.gets(0, 0), 1000 - 90);
        DOC.due("barred", x.of(1, 2), 1);
        x.terms(2, 8);
        DOC.due("89 of 100, taxes 9", x.gets(0, 0), 890 - 80);
        DOC.due("not barred", x.of(1, 2), 0);
        x.terms(0, 98);
        DOC.due("88 of 100", x.gets(0, 0), 880);
        x.pass();
        DOC.due("89 of 100 a year later", x.gets(0, 0), 890);
        x.pass();
        DOC.due("80 of 100, taxes 1", x.gets(0, 0), 792);
        x.undo();
        DOC.due("89 of 100 again", x.gets(0, 0), 890);
    }

    private static void clauseThatHolds() {
        DOC.says("A CLAUSE HOLDS, if its \"if\" (if it has one) is so, and neither that nor its SUM is BROKEN.");
        String[] holdNot = {" if 1=2", " if 1/0=1", " if not 1/0=1"};
        for (String when : holdNot) {
            DOC.due("shares" + when, lawful("0&1", "shares 10" + when).gets(0, 0), 500);
            DOC.due("taxes" + when, lawful("0&1", "taxes 10" + when).gets(0, 0), 500);
            DOC.due("bars" + when, lawful("0&1", "bars" + when).of(0, 2), 0);
        }
        for (String when : new String[] {"", " if 1=1"}) {
            DOC.due("shares" + when, lawful("0&1", "shares 10" + when).gets(0, 0), 100);
            DOC.due("taxes" + when, lawful("0&1", "taxes 10" + when).gets(0, 0), 450);
            DOC.due("bars" + when, lawful("0&1", "bars" + when).of(0, 2), 1);
            DOC.due("a broken share" + when, lawful("0&1", "shares 1/0" + when).gets(0, 0), 500);
            DOC.due("a broken tax" + when, lawful("0&1", "taxes 1/0" + when).gets(0, 0), 500);
        }
    }

    private static void sharesTell() {
        DOC.says("Of each 100 the left has at an AND what the last \"shares\" that HOLDS tells, 0 .. 100 (else the nearest), 50 without");
        int[][] tells = {{-1000, 0}, {-1, 0}, {0, 0}, {1, 10}, {50, 500}, {99, 990}, {100, 1000},
            {101, 1000}, {1000, 1000}};
        for (int[] pair : tells) {
            String sum = pair[0] < 0 ? "0-" + -pair[0] : "" + pair[0];
            CommaWill x = lawful("0&1", "shares " + sum);
            DOC.due("left of " + sum, x.gets(0, 0), pair[1]);
            DOC.due("right of " + sum, x.gets(0, 1), 1000 - pair[1]);
            DOC.due("lost of " + sum, x.lost(0), 0);
        }
        DOC.due("the last", lawful("0&1", "shares 10;shares 20;shares 30").gets(0, 0), 300);
        DOC.due("the last that holds", lawful("0&1", "shares 10;shares 20;shares 30 if 1=2").gets(0, 0),
                200);
        DOC.due("the first holds alone", lawful("0&1", "shares 10;shares 1/0;shares 30 if 1=2").gets(0, 0),
                100);
        DOC.due("others between", lawful("0&1", "shares 10;bars if 1=2;taxes 0").gets(0, 0), 100);
        DOC.due("without", lawful("0&1", "bars if 1=2").gets(0, 0), 500);
    }

    private static void taxesTake() {
        DOC.says("of each 100 that one would get TAXES take 0 .. 100, 0 without");
        int[][] takes = {{-1000, 1000}, {-1, 1000}, {0, 1000}, {1, 990}, {99, 10}, {100, 0}, {101, 0},
            {1000, 0}};
        for (int[] pair : takes) {
            String sum = pair[0] < 0 ? "0-" + -pair[0] : "" + pair[0];
            CommaWill x = lawful("0", "taxes " + sum);
            DOC.due("gets, taxes " + sum, x.gets(0, 0), pair[1]);
            DOC.due("lost, taxes " + sum, x.lost(0), 1000 - pair[1]);
        }
        DOC.due("the last", lawful("0", "taxes 10;taxes 20").gets(0, 0), 800);
        DOC.due("the last that holds", lawful("0", "taxes 10;taxes 20 if 1=2;taxes 1/0").gets(0, 0), 900);
        DOC.due("without", lawful("0", "shares 10").gets(0, 0), 1000);
        CommaWill x = lawful("0|1", "taxes 100");
        DOC.due("one who is taxed wholly takes", x.gets(0, 1), 0);
    }

    private static void cuts() {
        DOC.says("A PERSON GETS all that it would get together, less what TAXES take of that (by 100, cut).");
        int[][] due = {{1, 99, 1}, {1, 100, 0}, {99, 1, 99}, {100, 1, 99}, {199, 1, 198}, {999, 10, 900},
            {9999, 99, 100}, {9999, 100, 0}, {0, 100, 0}};
        for (int[] three : due) {
            CommaWill x = lawful("0", "taxes " + three[1]);
            x.terms(1, three[0]);
            DOC.due(three[0] + " less " + three[1], x.gets(0, 0), three[2]);
        }
        CommaWill x = lawful("0&0", "taxes 1");
        x.terms(1, 199);
        DOC.due("99 and 100 together", x.gets(0, 0), 198);
    }

    private static void barred() {
        DOC.says("one is BARRED, if \"bars\" HOLDS.");
        CommaWill x = lawful("0&1", "bars if heir = 0;bars if heir = 2;shares 10");
        DOC.due("by the first", x.of(0, 2), 1);
        DOC.due("by none", x.of(1, 2), 0);
        DOC.due("by the second", x.of(2, 2), 1);
        DOC.due("the barred gets nothing", x.gets(0, 0), 0);
        DOC.due("all to the other", x.gets(0, 1), 1000);
        x = lawful("0&1", "bars");
        DOC.due("all are barred", x.lost(0), 1000);
        x.force(NONE);
        DOC.due("no law, nobody barred", x.of(0, 2), 0);
    }

    private static void lawWithoutRoom() {
        DOC.says("-5 (ahead of reading it; the TAPE is empty then, too)");
        for (String text : new String[] {"bars", "x", "  ", ""}) {
            CommaWill x = new CommaWill();
            orders(x, "pass x");
            addLaws(x, 6);
            orders(x, "pass x");
            DOC.due("no room: " + text, law(x, text), -5);
            DOC.due("the tape is empty", x.count(6), 0);
            DOC.due("it was not read", x.fault(), 5);
            DOC.due("by -5", x.count(10), 1);
            DOC.due("not by -6", x.count(11), 2);
            DOC.due("status", x.status(), -5);
            DOC.due("six", x.count(4), 6);
        }
    }

    private static void lawWithAFault() {
        DOC.says("-6 (blanks alone: FAULT at the end).");
        CommaWill x = new CommaWill();
        for (int blanks : new int[] {0, 1, 20, 399, 400}) {
            DOC.due(blanks + " blanks", law(x, " ".repeat(blanks)), -6);
            DOC.due("fault", x.fault(), blanks);
            DOC.due("the tape is empty", x.count(6), 0);
            DOC.due("orders of " + blanks + " blanks", orders(x, " ".repeat(blanks)), -6);
            DOC.due("fault", x.fault(), blanks);
        }
        DOC.due("a fault", law(x, "bars x"), -6);
        DOC.due("the tape is empty then, too", x.count(6), 0);
        DOC.due("no law", x.count(4), 0);
        DOC.due("the next is the first", law(x, "bars"), 0);
        DOC.due("without a fault", x.fault(), NONE);
        DOC.due("the tape is empty", x.count(6), 0);
    }

    private static void force() {
        DOC.says("A LAW is in FORCE (NONE: none): which was. -2.");
        CommaWill x = will("0&1");
        DOC.due("no law 0", x.force(0), -2);
        DOC.due("none, of none", x.force(NONE), NONE);
        DOC.due("not refused", x.status(), 0);
        addLaws(x, 6);
        DOC.due("the first", x.force(0), NONE);
        DOC.due("the last", x.force(5), 0);
        DOC.due("by it", x.gets(0, 0), 60);
        DOC.due("6", x.force(6), -2);
        DOC.due("-2", x.force(-2), -2);
        for (int far : FAR) {
            DOC.due("far", x.force(far), -2);
        }
        DOC.due("it stays", x.count(12), 5);
        DOC.due("the same again", x.force(5), 5);
        DOC.due("none", x.force(NONE), 5);
        DOC.due("none is", x.count(12), NONE);
        DOC.due("halves", x.gets(0, 0), 500);
    }

    private static void compared() {
        DOC.says("what a PERSON GETS in a READING by a LAW in place of that in FORCE (NONE: none)");
        CommaWill x = will("0&1&2");
        law(x, "shares 10");
        law(x, "taxes 10; bars if heir = 2");
        DOC.due("by none in place of none", x.compare(NONE, 0, 0), 500);
        DOC.due("by 0", x.compare(0, 0, 0), 100);
        DOC.due("by 1", x.compare(1, 0, 0), 450);
        DOC.due("by 1 one is barred", x.compare(1, 0, 2), 0);
        DOC.due("none is barred by that", x.of(2, 2), 0);
        x.force(1);
        DOC.due("by the one in force", x.compare(1, 0, 0), x.gets(0, 0));
        DOC.due("by 0, nobody is barred", x.compare(0, 0, 2), 810);
        DOC.due("by none", x.compare(NONE, 1, 2), 500);
        DOC.due("in force as before", x.count(12), 1);
        DOC.due("gets as before", x.gets(0, 0), 450);
        DOC.due("barred as before", x.of(2, 2), 1);
    }

    private static void compareNone() {
        DOC.says("COMPARED. NONE (no such LAW, READING, PERSON).");
        CommaWill x = will("0&1&2");
        DOC.due("no law 0", x.compare(0, 0, 0), NONE);
        addLaws(x, 6);
        DOC.due("law 5", x.compare(5, 0, 0), 60);
        DOC.due("law 6", x.compare(6, 0, 0), NONE);
        DOC.due("law -2", x.compare(-2, 0, 0), NONE);
        DOC.due("reading 1", x.compare(0, 1, 2), 990);
        DOC.due("reading 2", x.compare(0, 2, 0), NONE);
        DOC.due("reading -1", x.compare(0, -1, 0), NONE);
        DOC.due("person 5", x.compare(0, 0, 5), 0);
        DOC.due("person 6", x.compare(0, 0, 6), NONE);
        DOC.due("person -1", x.compare(0, 0, -1), NONE);
        for (int far : FAR) {
            DOC.due("far law", x.compare(far, 0, 0), NONE);
            DOC.due("far reading", x.compare(0, far, 0), NONE);
            DOC.due("far person", x.compare(0, 0, far), NONE);
        }
        DOC.due("no names, no reading", new CommaWill().compare(NONE, 0, 0), NONE);
    }
}
