/** The TAPE, the ROW and promises 7 to 10 at their bounds. */
public final class TapeBoundsTest extends Wills {
    private static final Sentences DOC = new Sentences();

    private TapeBoundsTest() {
    }

    public static void main(String[] args) {
        fourHundredBytes();
        feedByFours();
        feedNoMore();
        end();
        rowByThrees();
        theFirstOfARow();
        blotThatCannotBe();
        blotAtTheEnd();
        blotWithoutRoom();
        rowEmptiesTheTape();
        emptyTape();
        blots();
        DOC.finish();
    }

    private static void fourHundredBytes() {
        DOC.says("TEXTS are on a TAPE of at most 400 bytes.");
        CommaWill x = new CommaWill();
        String full = "bars" + " ".repeat(396);
        Check.put(x, full);
        DOC.due("all are there", x.count(6), 400);
        DOC.due("a law of 400 bytes", x.law(), 0);
        DOC.due("its last byte is read", law(x, " ".repeat(399) + "x"), -6);
        DOC.due("fault at the last byte", x.fault(), 399);
        DOC.due("all but its end", law(x, "bars;" + " ".repeat(395)), -6);
        DOC.due("fault at 400", x.fault(), 400);
        DOC.due("orders of 400 bytes", orders(x, " ".repeat(396) + "pass"), 1);
    }

    private static void feedByFours() {
        DOC.says("Twenty bytes come behind the TAPE, four of each number, the highest first: how many it has.");
        CommaWill x = new CommaWill();
        DOC.due("twenty", x.feed(0x00000001, 0x02030200, 0x05000104, 0x01030202, 0x02010000), 20);
        DOC.due("six names", x.row(), 6);
        DOC.due("two bytes more", x.blots(), 1);
        int[] persons = {0, 3, 5, 4, 2, 1};
        int[] kinds = {1, 2, 0, 1, 2};
        int[] marks = {2, 0, 1, 3, 2};
        for (int i = 0; i < 6; i++) {
            DOC.due("name " + i, x.who(i), persons[i]);
        }
        for (int j = 0; j < 5; j++) {
            DOC.due("kind " + j, x.join(j, 0), kinds[j]);
            DOC.due("mark " + j, x.join(j, 1), marks[j]);
        }
        x.feed(-1, 0, 0, 0, 0);
        x.end(4);
        DOC.due("a number below 0 is bytes, too", x.law(), -6);
        DOC.due("of which the first can't be", x.fault(), 0);
        x.feed(0x20202062, 0x61727320, 0x20202020, 0x20202020, 0x20202020);
        DOC.due("behind what was there", x.feed(0x3b626172, 0x73202020, 0x20202020, 0x20202020,
                0x20202020), 40);
        DOC.due("a law from two feeds", x.law(), 0);
    }

    private static void feedNoMore() {
        DOC.says("NONE, if there would be more than 400.");
        CommaWill x = new CommaWill();
        for (int n = 20; n <= 400; n += 20) {
            DOC.due("feed", x.feed(n, n, n, n, n), n);
        }
        DOC.due("420", x.feed(0, 0, 0, 0, 0), NONE);
        DOC.due("400 stay", x.count(6), 400);
        x.end(399);
        DOC.due("419", x.feed(0, 0, 0, 0, 0), NONE);
        x.end(381);
        DOC.due("401", x.feed(0, 0, 0, 0, 0), NONE);
        DOC.due("381 stay", x.count(6), 381);
        x.end(380);
        DOC.due("400", x.feed(0, 0, 0, 0, 0), 400);
        x.end(1);
        DOC.due("21", x.feed(0, 0, 0, 0, 0), 21);
    }

    private static void end() {
        DOC.says("The TAPE has its first n bytes alone: n. NONE, if it has not so many, or n is below 0.");
        CommaWill x = new CommaWill();
        DOC.due("0 of none", x.end(0), 0);
        DOC.due("1 of none", x.end(1), NONE);
        DOC.due("-1 of none", x.end(-1), NONE);
        x.feed(0x62617273, 0, 0, 0, 0);
        DOC.due("all", x.end(20), 20);
        DOC.due("21 of 20", x.end(21), NONE);
        DOC.due("-1", x.end(-1), NONE);
        for (int far : FAR) {
            DOC.due("far", x.end(far), NONE);
        }
        DOC.due("20 stay", x.count(6), 20);
        DOC.due("4", x.end(4), 4);
        DOC.due("5 of 4", x.end(5), NONE);
        DOC.due("the first four alone", x.law(), 0);
        x.feed(0x70617373, 0x78787878, 0, 0, 0);
        DOC.due("4", x.end(4), 4);
        DOC.due("others come behind the fourth", x.feed(0x20202020, 0x20202020, 0x20202020,
                0x20202020, 0x20202020), 24);
        DOC.due("what was cut is gone", x.orders(), 1);
        x.feed(0, 0, 0, 0, 0);
        DOC.due("none", x.end(0), 0);
        DOC.due("no bytes", x.count(6), 0);
        DOC.due("no row", x.row(), -6);
    }

    private static void rowByThrees() {
        DOC.says("A ROW: the TAPE's bytes by threes: a KIND, a MARK (both 0 for the first NAME), a PERSON:"
                + " a NAME behind the others with the JOIN ahead of it");
        CommaWill x = will("4&4");
        DOC.due("behind the others, the first of a row has a join, too", row(x, 2, 3, 5, 0, 0, 0), 2);
        DOC.due("kind", x.join(1, 0), 2);
        DOC.due("mark", x.join(1, 1), 3);
        DOC.due("person", x.who(2), 5);
        DOC.due("kind", x.join(2, 0), 0);
        DOC.due("mark", x.join(2, 1), 0);
        DOC.due("person", x.who(3), 0);
        DOC.due("the mark tells which is on top", x.readings(), 1);
    }

    private static void theFirstOfARow() {
        DOC.says("a KIND, a MARK (both 0 for the first NAME)");
        CommaWill x = new CommaWill();
        DOC.due("a kind, a mark for the first", row(x, 1, 0, 0, 0, 1, 1), 0);
        DOC.due("two blots", x.blots(), 2);
        DOC.due("then the first that can be", row(x, 2, 3, 0, 0, 0, 4, 2, 3, 5), 2);
        DOC.due("a blot", x.blots(), 1);
        DOC.due("the first", x.who(0), 4);
        DOC.due("the second", x.who(1), 5);
        DOC.due("its kind", x.join(0, 0), 2);
        DOC.due("its mark", x.join(0, 1), 3);
    }

    private static void blotThatCannotBe() {
        DOC.says("one that can't be, one within which the TAPE ends, one for which there is no room is a BLOT: nothing.");
        int[][] cannot = {{3, 0, 0}, {0, 4, 0}, {0, 0, 6}, {255, 0, 0}, {0, 255, 0}, {0, 0, 255},
            {128, 0, 0}, {0, 128, 0}, {0, 0, 128}};
        for (int[] three : cannot) {
            CommaWill x = will("0");
            DOC.due("it comes not", row(x, three), 0);
            DOC.due("a blot", x.blots(), 1);
            DOC.due("nothing", x.count(0), 1);
            DOC.due("not refused", x.status(), 0);
        }
        CommaWill x = will("0");
        DOC.due("the last that can be", row(x, 2, 3, 5), 1);
        DOC.due("no blot", x.blots(), 0);
    }

    private static void blotAtTheEnd() {
        DOC.says("one within which the TAPE ends");
        for (int many = 1; many <= 7; many++) {
            CommaWill x = new CommaWill();
            x.feed(0, 0, 0, 0, 0);
            x.end(many);
            DOC.due(many + " bytes", x.row(), many / 3);
            DOC.due("the rest of " + many, x.blots(), many % 3 == 0 ? 0 : 1);
        }
        CommaWill x = new CommaWill();
        for (int i = 0; i < 20; i++) {
            x.feed(0, 0, 0, 0, 0);
        }
        DOC.due("400 bytes", x.row(), 7);
        DOC.due("126 without room, one byte", x.blots(), 127);
    }

    private static void blotWithoutRoom() {
        DOC.says("one for which there is no room is a BLOT");
        CommaWill x = will("0&0&0&0&0&0");
        DOC.due("room for one", row(x, 1, 1, 1, 2, 2, 2), 1);
        DOC.due("a blot", x.blots(), 1);
        DOC.due("the seventh", x.who(6), 1);
        DOC.due("its kind", x.join(5, 0), 1);
        DOC.due("room for none", row(x, 0, 0, 0), 0);
        DOC.due("a blot", x.blots(), 1);
        DOC.due("one that can't be is one blot", row(x, 9, 9, 9), 0);
        DOC.due("a blot", x.blots(), 1);
        DOC.due("seven", x.count(0), 7);
        DOC.due("not refused", x.count(10), 0);
    }

    private static void rowEmptiesTheTape() {
        DOC.says("A ROW, the TAPE is empty then: how many NAMES came.");
        CommaWill x = new CommaWill();
        DOC.due("two came", row(x, 0, 0, 0, 0, 0, 1, 0), 2);
        DOC.due("the tape is empty", x.count(6), 0);
        DOC.due("none of one byte", row(x, 0), 0);
        DOC.due("the tape is empty", x.count(6), 0);
    }

    private static void emptyTape() {
        DOC.says("-6 the TAPE is empty.");
        CommaWill x = new CommaWill();
        DOC.due("at first", x.row(), -6);
        DOC.due("status", x.status(), -6);
        row(x, 0, 0, 0);
        DOC.due("behind a row", x.row(), -6);
        law(x, "bars");
        DOC.due("behind a law", x.row(), -6);
        orders(x, "pass");
        DOC.due("behind orders", x.row(), -6);
        x.feed(0, 0, 0, 0, 0);
        x.end(0);
        DOC.due("behind end 0", x.row(), -6);
        DOC.due("one name", x.count(0), 1);
        DOC.due("five were refused", x.count(11), 5);
        CommaWill full = will("0&0&0&0&0&0&0");
        DOC.due("without room, too", full.row(), -6);
    }

    private static void blots() {
        DOC.says("How many BLOTS the latest row() had that was not REFUSED (0 ahead of any).");
        CommaWill x = new CommaWill();
        DOC.due("ahead of any", x.blots(), 0);
        x.row();
        DOC.due("ahead of any that was not refused", x.blots(), 0);
        row(x, 9, 9, 9, 9);
        DOC.due("two", x.blots(), 2);
        x.row();
        DOC.due("a refused one leaves them", x.blots(), 2);
        row(x, 0, 0, 0);
        DOC.due("none in the latest", x.blots(), 0);
    }
}
