/** READINGS and what they give at their bounds: Terms III, promises 21 to 28. */
public final class ReadingBoundsTest extends Wills {
    private static final Sentences DOC = new Sentences();
    private static final String SEVEN = "0&1&2&3&4&5&0";

    private ReadingBoundsTest() {
    }

    public static void main(String[] args) {
        aNameAlone();
        theGreatestMark();
        rising();
        noneWithoutNames();
        takes();
        leftOut();
        takesBelowABut();
        lostWhereNobodyTakes();
        shareIsCut();
        allToTheOneThatTakes();
        lost();
        range();
        rangeIsTheLowest();
        unlike();
        settleNoneLess();
        settleTheFewest();
        settleTheFirst();
        settleSevenNames();
        settleAsAllStands();
        settleOneOfFive();
        settleGivesToAll();
        fairIsTheLowest();
        howManyReadings();
        readingsByMarksOfMoreAndMore();
        depth();
        gets();
        lostNone();
        rangeNone();
        settleNone();
        fairNone();
        DOC.finish();
    }

    private static void aNameAlone() {
        DOC.says("A READING of a piece of the row: a NAME alone");
        CommaWill x = will("3");
        DOC.due("one reading", x.readings(), 1);
        DOC.due("all to it", x.gets(0, 3), 1000);
        DOC.due("unlike", x.unlike(), 1);
        DOC.due("no join in it", x.depth(0, 0), NONE);
        DOC.due("two names, one reading", will("0&1").readings(), 1);
        DOC.due("its join is on top", will("0&1").depth(0, 0), 0);
    }

    private static void theGreatestMark() {
        DOC.says("one of its JOINS is on TOP, of those with the greatest MARK in that piece");
        CommaWill x = will("0&1&2&3");
        DOC.due("all 0", x.readings(), 5);
        x.mark(1, 1);
        DOC.due("one is greater by 1", x.readings(), 1);
        DOC.due("it is on top", x.depth(0, 1), 0);
        x.mark(0, 1);
        x.mark(2, 1);
        DOC.due("all 1", x.readings(), 5);
        x = will("0&31&12&23&34&15");
        DOC.due("3 1 2 3 1: 0 or 3 on top", x.readings(), 2);
        DOC.due("0 on top", x.depth(0, 0), 0);
        DOC.due("then 3, of the greatest in its piece", x.depth(0, 3), 1);
        DOC.due("then 2, above 1", x.depth(0, 2), 2);
        DOC.due("1 below it", x.depth(0, 1), 3);
        DOC.due("4 below 3", x.depth(0, 4), 2);
        DOC.due("3 on top", x.depth(1, 3), 0);
        DOC.due("then 0", x.depth(1, 0), 1);
        x = will("0&11&32&13");
        DOC.due("pieces have their own greatest", x.readings(), 1);
        DOC.due("0 below 1", x.depth(0, 0), 1);
        DOC.due("2 below 1", x.depth(0, 2), 1);
    }

    private static void rising() {
        DOC.says("READINGS of the whole row by numbers 0, 1 ..: by the JOIN on TOP, rising,"
                + " then by the READING of the left, then of the right");
        int[][] five = {{0, 1, 2}, {0, 2, 1}, {1, 0, 1}, {1, 2, 0}, {2, 1, 0}};
        CommaWill x = will("0&1&2&3");
        for (int r = 0; r < 5; r++) {
            for (int j = 0; j < 3; j++) {
                DOC.due("depth " + r + ", " + j, x.depth(r, j), five[r][j]);
            }
        }
        x = will(SEVEN);
        int[] tops = {42, 14, 10, 10, 14, 42};
        int r = 0;
        for (int top = 0; top < 6; top++) {
            DOC.due("the first with " + top + " on top", x.depth(r, top), 0);
            r += tops[top];
            DOC.due("the last with " + top + " on top", x.depth(r - 1, top), 0);
        }
        // With 3 on top there are 5 of the left by 2 of the right: 66 .. 75.
        DOC.due("the right is the quicker one", x.depth(66, 4), 1);
        DOC.due("its second", x.depth(67, 5), 1);
        DOC.due("the left goes on then", x.depth(67, 0), 1);
        DOC.due("its second", x.depth(68, 2), 2);
        DOC.due("and the right's first again", x.depth(68, 4), 1);
    }

    private static void noneWithoutNames() {
        DOC.says("(none without NAMES)");
        CommaWill x = new CommaWill();
        DOC.due("readings", x.readings(), 0);
        DOC.due("gets", x.gets(0, 0), NONE);
        DOC.due("lost", x.lost(0), NONE);
        DOC.due("unlike", x.unlike(), 0);
    }

    private static void takes() {
        DOC.says("A piece TAKES: a NAME alone, if its PERSON is FIT and not LEFT OUT;"
                + " with an AND, an OR on TOP, if one of both pieces TAKES");
        CommaWill x = lawful("0|1", "bars if heir = 0 and mood = 1");
        DOC.due("0 takes", x.gets(0, 0), 1000);
        x.terms(2, 1);
        DOC.due("barred, takes not", x.gets(0, 1), 1000);
        x.terms(2, 0);
        x.die(0);
        DOC.due("dead, takes not", x.gets(0, 1), 1000);
        x.die(1);
        DOC.due("none takes", x.lost(0), 1000);
        for (String sign : new String[] {"&", "|"}) {
            x = will("0|31" + sign + "2");
            x.die(0);
            x.die(1);
            DOC.due("1" + sign + "2 takes by its right", x.gets(0, 2), 1000);
            x = will("0|31" + sign + "2");
            x.die(0);
            x.die(2);
            DOC.due("1" + sign + "2 takes by its left", x.gets(0, 1), 1000);
            x.die(1);
            DOC.due("1" + sign + "2 takes not", x.lost(0), 1000);
        }
    }

    private static void leftOut() {
        DOC.says("with a BUT, if the left does, all PERSONS named on its right being LEFT OUT there, too.");
        DOC.due("0 but 1", will("0!1").gets(0, 0), 1000);
        DOC.due("0 but 0", will("0!0").lost(0), 1000);
        CommaWill x = will("0!1");
        x.die(0);
        DOC.due("the right never takes", x.lost(0), 1000);
        x = will("0!1|31");
        DOC.due("(0 but 1) or 1", x.gets(0, 0), 1000);
        x.die(0);
        DOC.due("left out there alone", x.gets(0, 1), 1000);
        x = will("0|1!30!2");
        DOC.due("(0 or 1) but (0 but 2)", x.gets(0, 1), 1000);
        x.die(1);
        DOC.due("one whom the right itself leaves out", will("0|2!30!2").lost(0), 1000);
        x = will("0&1!22!31");
        DOC.due("((0 and 1) but 2) but 1: an upper one leaves out, too", x.gets(0, 1), 0);
        DOC.due("all to 0", x.gets(0, 0), 1000);
        x = will("0!31");
        x.die(1);
        DOC.due("the dead leave nobody else out", x.gets(0, 0), 1000);
        x = will("0&1!30");
        DOC.due("(0 and 1) but 0", x.gets(0, 1), 1000);
        DOC.due("0 is left out", x.gets(0, 0), 0);
    }

    private static void takesBelowABut() {
        DOC.says("if one of both pieces TAKES; with a BUT, if the left does");
        CommaWill x = will("0&1!22|33");
        DOC.due("((0 and 1) but 2) or 3", x.gets(0, 0), 500);
        x.die(0);
        DOC.due("without 0", x.gets(0, 1), 1000);
        x.die(1);
        DOC.due("the but takes not", x.gets(0, 3), 1000);
        DOC.due("(0 but 0) or 1", will("0!20|31").gets(0, 1), 1000);
        DOC.due("(0 but (0 and 2)) or 1", will("0!20&2|31").gets(0, 1), 1000);
        DOC.due("(0 but (2 and 0)) or 1", will("0!22&0|31").gets(0, 1), 1000);
        x = will("0&1&22|33");
        x.die(2);
        DOC.due("((0 and 1) and 2) or 3, by the left", x.gets(0, 0), 500);
        x = will("0|31&22&3");
        x.die(0);
        x.die(1);
        DOC.due("0 or (1 and (2 and 3)), by the right", x.gets(0, 2), 500);
        x = will("0&1!12!23|34");
        DOC.due("(((0 and 1) but 2) but 3) or 4", x.gets(0, 1), 500);
        x.die(0);
        x.die(1);
        DOC.due("none takes on the left", x.gets(0, 4), 1000);
    }

    private static void lostWhereNobodyTakes() {
        DOC.says("WORTH goes to the whole row; what goes to a piece that TAKES not is LOST");
        CommaWill x = will("0&1");
        x.die(0);
        x.die(1);
        DOC.due("all is lost", x.lost(0), 1000);
        DOC.due("none to 0", x.gets(0, 0), 0);
        x = will("0!0");
        DOC.due("all is lost", x.lost(0), 1000);
        x.terms(1, 0);
        DOC.due("all of nothing", x.lost(0), 0);
    }

    private static void shareIsCut() {
        DOC.says("at an AND the left has its share (by 100, cut), the right the rest, if both TAKE,"
                + " else all goes to that which does");
        int[][] due = {{0, 50, 0}, {1, 50, 0}, {1, 99, 0}, {1, 100, 1}, {3, 50, 1}, {9999, 50, 4999},
            {9999, 1, 99}, {9999, 99, 9899}, {101, 1, 1}, {99, 1, 0}};
        for (int[] three : due) {
            CommaWill x = lawful("0&1", "shares " + three[1]);
            x.terms(1, three[0]);
            DOC.due(three[1] + " of " + three[0], x.gets(0, 0), three[2]);
            DOC.due("the rest", x.gets(0, 1), three[0] - three[2]);
        }
    }

    private static void allToTheOneThatTakes() {
        DOC.says("else all goes to that which does; at an OR to the left, if it TAKES, else to the right;"
                + " at a BUT to the left");
        int[][] left = {{1000, 0}, {1000, 0}, {1000, 0}};
        int[][] right = {{0, 1000}, {0, 1000}, {0, 0}};
        for (int kind = 0; kind <= 2; kind++) {
            CommaWill x = will("0&1");
            x.turn(0, kind);
            x.die(1);
            DOC.due("0, if 1 is dead", x.gets(0, 0), left[kind][0]);
            DOC.due("1 is dead", x.gets(0, 1), left[kind][1]);
            x.undo();
            x.die(0);
            DOC.due("0 is dead", x.gets(0, 0), right[kind][0]);
            DOC.due("1, if 0 is dead", x.gets(0, 1), right[kind][1]);
        }
        DOC.due("an or of both", will("0|1").gets(0, 1), 0);
        DOC.due("an and of one with all", lawful("0&1", "shares 100").gets(0, 1), 0);
    }

    private static void lost() {
        DOC.says("What nobody GETS is LOST.");
        CommaWill x = lawful("0&1", "taxes 33");
        x.terms(1, 999);
        DOC.due("499 less 164", x.gets(0, 0), 335);
        DOC.due("500 less 165", x.gets(0, 1), 335);
        DOC.due("the taxes", x.lost(0), 329);
        DOC.due("nothing", will("0&1").lost(0), 0);
    }

    private static void range() {
        DOC.says("RANGE of a PERSON: the least and the most of all READINGS");
        CommaWill x = will(SEVEN);
        // Six JOINS above it: 500, 250, 125, 63, 32, 16. Two: 250.
        DOC.due("least of 5", x.range(5, 0), 16);
        DOC.due("most of 5", x.range(5, 1), 250);
        DOC.due("least of 0", x.range(0, 0), least(x, 0, true));
        DOC.due("most of 0", x.range(0, 1), least(x, 0, false));
        DOC.due("one reading: least", will("0&1").range(0, 0), 500);
        DOC.due("one reading: most", will("0&1").range(0, 1), 500);
        DOC.due("one not named", will("0&1").range(5, 1), 0);
    }

    private static int least(CommaWill x, int person, boolean isLeast) {
        int found = x.gets(0, person);
        for (int r = 1; r < x.readings(); r++) {
            int much = x.gets(r, person);
            found = isLeast ? Math.min(found, much) : Math.max(found, much);
        }
        return found;
    }

    private static void rangeIsTheLowest() {
        DOC.says("the lowest number of these by which it GETS the most");
        CommaWill x = will("0&1&2");
        DOC.due("the first", x.range(0, 2), 0);
        DOC.due("the last", x.range(2, 2), 1);
        DOC.due("alike in both", x.range(1, 2), 0);
        DOC.due("nothing in both", x.range(5, 2), 0);
        x = will("0&1&2&3");
        DOC.due("2 and 3 give 250, 0 and 1 less", x.gets(1, 1), 125);
        DOC.due("1 gets 250 by the first, too", x.range(1, 2), 0);
        DOC.due("3 gets 500 by the last two", x.range(3, 2), 3);
    }

    private static void unlike() {
        DOC.says("UNLIKE: how many unlike rows of what PERSONS GET the READINGS give.");
        DOC.due("no readings", new CommaWill().unlike(), 0);
        DOC.due("one", will("0").unlike(), 1);
        DOC.due("two", will("0&1&2").unlike(), 2);
        DOC.due("all alike", will("0&0&0&0&0&0&0").unlike(), 1);
        DOC.due("all unlike", will("0&1&2&3&4").unlike(), 14);
        DOC.due("0 alone, alike", will("0|1|2|3|4|5|0").unlike(), 1);
        CommaWill x = will("0&1&2");
        x.terms(1, 0);
        DOC.due("rows of nothing", x.unlike(), 1);
        x.terms(1, 1000);
        x.mark(0, 1);
        DOC.due("one reading", x.unlike(), 1);
        // 500 250 250 and 250 500 250: alike but for who gets it.
        DOC.due("the same amounts to others", lawful("0&1&2", "shares 50").unlike(), 2);
        DOC.due("unlike in the last person alone", lawful("4&5&5", "taxes 100 if heir = 4").unlike(), 2);
        DOC.due("unlike in the first person alone", lawful("0&0&1", "taxes 100 if heir = 1").unlike(), 2);
    }

    private static void settleNoneLess() {
        DOC.says("To SETTLE a READING: MARKS, none less than now");
        CommaWill x = will("0&31&32");
        DOC.due("both 3: none can be above", x.settle(0, 0), NONE);
        DOC.due("nor below", x.settle(1, 0), NONE);
        x.mark(1, 2);
        DOC.due("3 2", x.settle(0, 0), 0);
        x = will("0&21&22");
        DOC.due("2 2: one more", x.settle(0, 0), 1);
        DOC.due("3", x.settle(0, 1), 3);
        DOC.due("2", x.settle(0, 2), 2);
        x = will("0&31&32&33");
        DOC.due("by no mark", x.settle(2, 0), NONE);
        DOC.due("nor is there a mark then", x.settle(2, 1), NONE);
    }

    private static void settleTheFewest() {
        DOC.says("the fewest MARKS more together");
        CommaWill x = will("0&1&2&3&4");
        DOC.due("3 2 1 0", x.settle(0, 0), 6);
        DOC.due("0 1 2 3", x.settle(13, 0), 6);
        x = will("0&1&2&3&4&5");
        DOC.due("4 would be needed", x.settle(0, 0), NONE);
        DOC.due("the last, too", x.settle(41, 0), NONE);
        DOC.due("none at all", will("0|1|2|3|4|5|0").settle(131, 0), 0);
        DOC.due("one name", will("0").settle(0, 0), 0);
        x = will("0&1&2");
        DOC.due("one", x.settle(0, 0), 1);
        x.mark(0, 1);
        DOC.due("none more", x.settle(0, 0), 0);
        DOC.due("the mark stays", x.settle(0, 1), 1);
    }

    private static void settleTheFirst() {
        DOC.says("the first as a row by JOINS");
        CommaWill x = will("0|1|2&3");
        // 1000 to 0: an OR above the AND. 1 0 0 does it, and 0 1 0; the second is the first as a row.
        DOC.due("one", x.settle(0, 0), 1);
        DOC.due("0", x.settle(0, 1), 0);
        DOC.due("1", x.settle(0, 2), 1);
        DOC.due("0", x.settle(0, 3), 0);
        x = will("3&0|1|2");
        x.die(0);
        DOC.due("3 and the ors", x.settle(0, 0), 1);
        DOC.due("1 0 0", x.settle(0, 1), 1);
        DOC.due("(3 and 0) or ..", x.settle(2, 0), 1);
        DOC.due("0 1 0", x.settle(2, 2), 1);
    }

    private static void settleAsAllStands() {
        DOC.says("gives to all what that one gives now");
        CommaWill x = will("0&1|2");
        law(x, "shares 100");
        DOC.due("both give alike", x.settle(0, 0), 0);
        x.die(1);
        DOC.due("behind a death", x.settle(0, 0), 1);
        x.undo();
        DOC.due("undone", x.settle(0, 0), 0);
        x.turn(1, AND);
        DOC.due("behind a turn", x.settle(0, 0), 1);
        x.terms(1, 0);
        DOC.due("of nothing", x.settle(0, 0), 0);
        x.terms(1, 1000);
        DOC.due("of 1000", x.settle(0, 0), 1);
        x.force(0);
        DOC.due("by a law that gives all to the left", x.settle(0, 0), 0);
        x.force(NONE);
        x.mark(1, 1);
        DOC.due("reading 0 is another one behind a mark", x.settle(0, 0), 0);
        x.mark(0, 1);
        DOC.due("two again", x.settle(0, 0), 1);
        x = lawful("0&1&2&3&14&25&30", "shares 10 + join * 7 + left");
        DOC.due("0 0 0 1 2 3: five", x.readings(), 5);
        for (int r = 0; r < 5; r++) {
            DOC.due("no room above for " + r, x.settle(r, 0), NONE);
        }
    }

    private static void settleOneOfFive() {
        DOC.says("To SETTLE a READING");
        CommaWill x = lawful("0&1&2&3&14&25&30",
                "shares 100; shares 0 if join = 0; shares 0 if join = 2 and left = 2");
        int[] all = {1, 3, 1, 1, 1};
        for (int r = 0; r < 5; r++) {
            DOC.due("all goes to one", x.gets(r, all[r]), 1000);
        }
        // The one that gives otherwise has JOIN 2 below JOIN 0 and above JOIN 1.
        for (int r : new int[] {0, 2, 3, 4}) {
            DOC.due("one more", x.settle(r, 0), 1);
            int[] due = {0, 0, 1, 1, 2, 3};
            for (int j = 0; j < 6; j++) {
                DOC.due("mark then", x.settle(r, 1 + j), due[j]);
            }
        }
    }

    private static void settleSevenNames() {
        DOC.says("the fewest MARKS more together; the first as a row by JOINS.");
        CommaWill x = will("0|1|2|3|4|4&5");
        // Half to 5, if the AND is on top (90 .. 131), else all to 0.
        for (int r : new int[] {0, 63, 64, 89}) {
            DOC.due("an or is on top of " + r, x.gets(r, 0), 1000);
            DOC.due("one more", x.settle(r, 0), 1);
            for (int j = 0; j < 6; j++) {
                DOC.due("0 0 0 0 1 0", x.settle(r, 1 + j), j == 4 ? 1 : 0);
            }
        }
        for (int r : new int[] {90, 127, 128, 131}) {
            DOC.due("the and is on top of " + r, x.gets(r, 5), 500);
            DOC.due("one more", x.settle(r, 0), 1);
            for (int j = 0; j < 6; j++) {
                DOC.due("0 0 0 0 0 1", x.settle(r, 1 + j), j == 5 ? 1 : 0);
            }
        }
        x = will("5&0|1|2|3|4|4");
        x.die(0);
        // Half to 5, if the AND is above the first OR, else all.
        DOC.due("the and is on top of 41", x.gets(41, 5), 500);
        DOC.due("the first or of 42", x.gets(42, 5), 1000);
        DOC.due("one more", x.settle(41, 0), 1);
        DOC.due("1 0 0 0 0 0", x.settle(41, 1), 1);
        DOC.due("one more", x.settle(42, 0), 1);
        DOC.due("0 1 0 0 0 0", x.settle(42, 2), 1);
        DOC.due("the first or is above the and in 131", x.settle(131, 0), 1);
        DOC.due("by no mark", will(SEVEN).settle(0, 0), NONE);
        DOC.due("nor the last", will(SEVEN).settle(131, 0), NONE);
        settlesBy(4, 0, 1, 0, 2, 0, 1);
        settlesBy(7, 3, 1, 0, 2, 0, 1);
        settlesBy(7, 1, 0, 2, 0, 1, 3);
        settlesBy(7, 2, 1, 0, 3, 1, 0);
    }

    /** The READING that these MARKS alone leave of seven names has no fewer to be settled by. */
    private static void settlesBy(int more, int... marks) {
        CommaWill marked = will("0");
        for (int j = 0; j < 6; j++) {
            marked.name(0, marks[j], (j + 1) % 6);
        }
        DOC.due("one reading", marked.readings(), 1);
        CommaWill x = lawful(SEVEN, "shares 10 + join * 7 + left");
        x.terms(1, 9999);
        DOC.due("all are unlike", x.unlike(), 132);
        int reading = 0;
        for (int r = 0; r < 132; r++) {
            boolean isSame = true;
            for (int j = 0; j < 6; j++) {
                isSame = isSame && x.depth(r, j) == marked.depth(0, j);
            }
            reading = isSame ? r : reading;
        }
        DOC.due("more", x.settle(reading, 0), more);
        for (int j = 0; j < 6; j++) {
            DOC.due("mark then", x.settle(reading, 1 + j), marks[j]);
        }
    }

    private static void settleGivesToAll() {
        DOC.says("by which each READING there is then gives to all what that one gives now");
        CommaWill x = will("0&0&1&1");
        // 0 gets 750, 750, 500, 500, 250 and 1 the rest.
        DOC.due("reading 0", x.gets(0, 0), 750);
        DOC.due("reading 1", x.gets(1, 0), 625);
        DOC.due("reading 2", x.gets(2, 0), 500);
        DOC.due("its mark", x.settle(2, 0), 1);
        DOC.due("in the middle", x.settle(2, 2), 1);
        x = will("0&0&0&1");
        // All but the last JOIN are of 0: 875, 875 .. by which JOIN is on top.
        DOC.due("the last on top", x.gets(4, 0), 500);
        DOC.due("alike", x.gets(3, 0), 500);
        DOC.due("one mark settles both", x.settle(4, 0), 1);
        DOC.due("for each of both", x.settle(3, 0), 1);
        DOC.due("two readings are left then", x.mark(2, 1), 2);
        DOC.due("settled", x.settle(1, 0), 0);
    }

    private static void fairIsTheLowest() {
        DOC.says("FAIR: the READING in which the least that any FIT PERSON named GETS is most; the lowest.");
        CommaWill x = will("0&1&2&3");
        DOC.due("by twos", x.fair(0), 2);
        DOC.due("least", x.fair(1), 250);
        x = will("0&1&2");
        DOC.due("alike: the lowest", x.fair(0), 0);
        DOC.due("least", x.fair(1), 250);
        x.die(1);
        DOC.due("the dead count not", x.fair(1), 500);
        x = will("0&1&2&3");
        x.fair(0);
        x.mark(0, 1);
        DOC.due("the fairest is no reading behind a mark", x.fair(1), 125);
        DOC.due("the lowest of two", x.fair(0), 0);
        x = lawful("0&1", "bars if heir = 0");
        DOC.due("the barred count not", x.fair(1), 1000);
        x = will("0|1");
        DOC.due("one who gets nothing counts", x.fair(1), 0);
        DOC.due("the first", x.fair(0), 0);
        x = will("0&1");
        x.terms(1, 9999);
        DOC.due("of the most", x.fair(1), 4999);
        x = will("5");
        x.terms(1, 9999);
        DOC.due("all of the most", x.fair(1), 9999);
    }

    private static void howManyReadings() {
        DOC.says("How many READINGS there are.");
        int[] catalan = {1, 1, 2, 5, 14, 42, 132};
        CommaWill x = new CommaWill();
        DOC.due("none", x.readings(), 0);
        for (int due : catalan) {
            x.name(0, 0, 0);
            DOC.due("readings", x.readings(), due);
        }
        x.name(0, 0, 0);
        DOC.due("behind a refused name", x.readings(), 132);
    }

    private static void readingsByMarksOfMoreAndMore() {
        DOC.says("How many READINGS there are.");
        int[] catalan = {1, 1, 2, 5, 14, 42, 132};
        CommaWill x = new CommaWill();
        x.image(0);
        for (int round = 0; round < 2; round++) {
            write(x, "0&1");
            for (int joins = 2; joins <= 6; joins++) {
                x.name(0, 0, 5);
                DOC.due("all", x.readings(), catalan[joins]);
                DOC.due("the first on top", x.mark(0, 1), catalan[joins - 1]);
                DOC.due("the last, too", x.mark(joins - 1, 1), joins == 2 ? 2 : 2 * catalan[joins - 2]);
                DOC.due("the last alone", x.mark(0, 0), catalan[joins - 1]);
                DOC.due("all again", x.mark(joins - 1, 0), catalan[joins]);
            }
            x.back(0);
            DOC.due("none", x.readings(), 0);
        }
    }

    private static void depth() {
        DOC.says("How many JOINS are above a JOIN in a READING. NONE.");
        CommaWill x = will(SEVEN);
        for (int j = 0; j < 6; j++) {
            DOC.due("the first", x.depth(0, j), j);
            DOC.due("the last", x.depth(131, j), 5 - j);
        }
        DOC.due("reading 132", x.depth(132, 0), NONE);
        DOC.due("reading -1", x.depth(-1, 0), NONE);
        DOC.due("join 6", x.depth(0, 6), NONE);
        DOC.due("join -1", x.depth(0, -1), NONE);
        for (int far : FAR) {
            DOC.due("far reading", x.depth(far, 0), NONE);
            DOC.due("far join", x.depth(0, far), NONE);
        }
        x = will("0&1&2");
        DOC.due("the last join", x.depth(1, 1), 0);
        DOC.due("no join 2", x.depth(1, 2), NONE);
        DOC.due("no reading 2", x.depth(2, 1), NONE);
        x.mark(0, 1);
        DOC.due("one reading is left", x.depth(0, 1), 1);
        DOC.due("no reading 1", x.depth(1, 1), NONE);
    }

    private static void gets() {
        DOC.says("What a PERSON GETS in a READING. NONE.");
        CommaWill x = will("0&1&5");
        DOC.due("the last person by the last reading", x.gets(1, 5), 500);
        DOC.due("one not named", x.gets(1, 4), 0);
        DOC.due("reading 2", x.gets(2, 0), NONE);
        DOC.due("reading -1", x.gets(-1, 0), NONE);
        DOC.due("person 6", x.gets(0, 6), NONE);
        DOC.due("person -1", x.gets(0, -1), NONE);
        for (int far : FAR) {
            DOC.due("far reading", x.gets(far, 0), NONE);
            DOC.due("far person", x.gets(0, far), NONE);
        }
        x.mark(1, 1);
        DOC.due("no reading 1 behind a mark", x.gets(1, 0), NONE);
        DOC.due("its number is 0 now", x.gets(0, 5), 500);
        DOC.due("reading 131", will(SEVEN).gets(131, 0), 515);
        DOC.due("reading 132", will(SEVEN).gets(132, 0), NONE);
    }

    private static void lostNone() {
        DOC.says("What is LOST in a READING. NONE.");
        CommaWill x = will("0&1!31");
        DOC.due("reading 0", x.lost(0), 0);
        DOC.due("reading 1", x.lost(1), NONE);
        DOC.due("reading -1", x.lost(-1), NONE);
        for (int far : FAR) {
            DOC.due("far", x.lost(far), NONE);
        }
        DOC.due("no names", new CommaWill().lost(0), NONE);
        DOC.due("reading 131", will(SEVEN).lost(131), 0);
        DOC.due("reading 132", will(SEVEN).lost(132), NONE);
    }

    private static void rangeNone() {
        DOC.says("RANGE: the least (what 0), the most (1), that READING (2). NONE (no READINGS, too).");
        CommaWill x = will("0&1&2");
        DOC.due("least", x.range(2, 0), 250);
        DOC.due("most", x.range(2, 1), 500);
        DOC.due("reading", x.range(2, 2), 1);
        DOC.due("what 3", x.range(2, 3), NONE);
        DOC.due("what -1", x.range(2, -1), NONE);
        DOC.due("person 5", x.range(5, 0), 0);
        DOC.due("person 6", x.range(6, 0), NONE);
        DOC.due("person -1", x.range(-1, 0), NONE);
        for (int far : FAR) {
            DOC.due("far person", x.range(far, 0), NONE);
            DOC.due("far what", x.range(0, far), NONE);
        }
        for (int what = 0; what < 3; what++) {
            DOC.due("no readings", new CommaWill().range(0, what), NONE);
        }
    }

    private static void settleNone() {
        DOC.says("how many MARKS more (what 0), the MARK of JOIN j then (1 + j). NONE (it can't be).");
        CommaWill x = will("0&1&2");
        DOC.due("more", x.settle(1, 0), 1);
        DOC.due("join 0", x.settle(1, 1), 0);
        DOC.due("join 1", x.settle(1, 2), 1);
        DOC.due("no join 2", x.settle(1, 3), NONE);
        DOC.due("what -1", x.settle(1, -1), NONE);
        DOC.due("reading 2", x.settle(2, 0), NONE);
        DOC.due("reading -1", x.settle(-1, 0), NONE);
        for (int far : FAR) {
            DOC.due("far reading", x.settle(far, 0), NONE);
            DOC.due("far what", x.settle(0, far), NONE);
        }
        DOC.due("the marks stay", x.join(1, 1), 0);
        DOC.due("one name has no join", will("0").settle(0, 1), NONE);
        DOC.due("no names", new CommaWill().settle(0, 0), NONE);
        x = will("0|1|2|3|4|5|0");
        DOC.due("join 5 of seven names", x.settle(0, 6), 0);
        DOC.due("no join 6", x.settle(0, 7), NONE);
    }

    private static void fairNone() {
        DOC.says("FAIR: the READING (what 0), that least (1). NONE (no READINGS; nobody named is FIT).");
        CommaWill x = will("0&1");
        DOC.due("reading", x.fair(0), 0);
        DOC.due("least", x.fair(1), 500);
        DOC.due("what 2", x.fair(2), NONE);
        DOC.due("what -1", x.fair(-1), NONE);
        for (int far : FAR) {
            DOC.due("far", x.fair(far), NONE);
        }
        for (int what = 0; what < 2; what++) {
            DOC.due("no readings", new CommaWill().fair(what), NONE);
            x = will("0&1");
            x.die(0);
            DOC.due("one is fit", x.fair(what), what * 1000);
            x.die(1);
            DOC.due("nobody is", x.fair(what), NONE);
            DOC.due("all are barred", lawful("0&1", "bars").fair(what), NONE);
        }
    }
}
