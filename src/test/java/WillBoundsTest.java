/** Terms I and promises 1 to 6 at their bounds. */
public final class WillBoundsTest extends Wills {
    private static final Sentences DOC = new Sentences();

    private WillBoundsTest() {
    }

    public static void main(String[] args) {
        sevenNames();
        persons();
        joinsBetweenNames();
        kinds();
        marks();
        allLivingAtFirst();
        terms();
        aNewObject();
        theFirstName();
        who();
        join();
        of();
        aTerm();
        DOC.finish();
    }

    private static void sevenNames() {
        DOC.says("a row of NAMES 0 .. 6 (7 at most; none at first)");
        CommaWill x = new CommaWill();
        DOC.due("none at first", x.count(0), 0);
        for (int i = 0; i <= 6; i++) {
            DOC.due("no name yet", x.who(i), NONE);
            DOC.due("a name", x.name(0, 0, 5 - i % 6), i);
            DOC.due("whose", x.who(i), 5 - i % 6);
            DOC.due("so many", x.count(0), i + 1);
        }
        DOC.due("the eighth", x.name(0, 0, 0), -5);
        DOC.due("seven", x.count(0), 7);
        DOC.due("no name 7", x.who(7), NONE);
    }

    private static void persons() {
        DOC.says("each a PERSON 0 .. 5 (one may come again)");
        CommaWill x = new CommaWill();
        DOC.due("-1", x.name(0, 0, -1), -1);
        DOC.due("6", x.name(0, 0, 6), -1);
        DOC.due("0", x.name(0, 0, 0), 0);
        DOC.due("5", x.name(0, 0, 5), 1);
        DOC.due("5 again", x.name(0, 0, 5), 2);
        DOC.due("-1 behind others", x.name(0, 0, -1), -1);
        DOC.due("6 behind others", x.name(0, 0, 6), -1);
        for (int far : FAR) {
            DOC.due("far", x.name(0, 0, far), -1);
        }
        for (int i = 3; i < 7; i++) {
            DOC.due("5 again and again", x.name(0, 0, 5), i);
        }
        DOC.due("six times", x.of(5, 1), 6);
    }

    private static void joinsBetweenNames() {
        DOC.says("JOIN j is between NAME j and the next one");
        CommaWill x = new CommaWill();
        DOC.due("no names", x.join(0, 0), NONE);
        x.name(0, 0, 0);
        DOC.due("one name", x.join(0, 0), NONE);
        for (int j = 0; j < 6; j++) {
            x.name(j % 3, j % 4, 0);
            DOC.due("its kind", x.join(j, 0), j % 3);
            DOC.due("its mark", x.join(j, 1), j % 4);
            DOC.due("no join behind it", x.join(j + 1, 0), NONE);
            DOC.due("no join behind it", x.mark(j + 1, 1), -2);
        }
        DOC.due("none ahead of the first", x.join(-1, 0), NONE);
    }

    private static void kinds() {
        DOC.says("its KIND 0 AND, 1 OR, 2 BUT");
        int[][] gets = {{500, 500}, {1000, 0}, {1000, 0}};
        for (int kind = 0; kind <= 2; kind++) {
            CommaWill x = will("0");
            DOC.due("a kind", x.name(kind, 0, 1), 1);
            DOC.due("0 gets", x.gets(0, 0), gets[kind][0]);
            DOC.due("1 gets", x.gets(0, 1), gets[kind][1]);
            x.die(0);
            DOC.due("without 0", x.gets(0, 1), kind == BUT ? 0 : 1000);
        }
        CommaWill x = will("0");
        DOC.due("kind -1", x.name(-1, 0, 1), -1);
        DOC.due("kind 3", x.name(3, 0, 1), -1);
        for (int far : FAR) {
            DOC.due("far", x.name(far, 0, 1), -1);
        }
        DOC.due("none came", x.count(0), 1);
    }

    private static void marks() {
        DOC.says("its MARK 0 .. 3 (0 at first)");
        for (int mark = 0; mark <= 3; mark++) {
            CommaWill x = will("0");
            DOC.due("a mark", x.name(0, mark, 1), 1);
            DOC.due("its mark", x.join(0, 1), mark);
        }
        CommaWill x = will("0");
        DOC.due("mark -1", x.name(0, -1, 1), -1);
        DOC.due("mark 4", x.name(0, 4, 1), -1);
        for (int far : FAR) {
            DOC.due("far", x.name(0, far, 1), -1);
        }
        DOC.due("none came", x.count(0), 1);
    }

    private static void allLivingAtFirst() {
        DOC.says("PERSONS 0 .. 5: LIVING or dead (all LIVING at first)");
        CommaWill x = new CommaWill();
        for (int p = 0; p <= 5; p++) {
            DOC.due("living", x.of(p, 0), 1);
            DOC.due("dies", x.die(p), 5 - p);
            DOC.due("dead", x.of(p, 0), 0);
        }
        DOC.due("all dead", x.count(1), 0);
        DOC.due("no person 6", x.of(6, 0), NONE);
    }

    private static void terms() {
        DOC.says("TERMS: 0 YEAR 0 .. 999 (0 at first)");
        aTermFromTo(0, 999, 0);
        DOC.says("1 WORTH 0 .. 9999 (1000)");
        aTermFromTo(1, 9999, 1000);
        CommaWill x = will("0");
        x.terms(1, 9999);
        DOC.due("all of the most", x.gets(0, 0), 9999);
        x.terms(1, 0);
        DOC.due("all of nothing", x.gets(0, 0), 0);
        DOC.says("2 MOOD 0 .. 9 (0)");
        aTermFromTo(2, 9, 0);
        DOC.says("3 SLIPS 0 .. 10 (1)");
        aTermFromTo(3, 10, 1);
    }

    private static void aTermFromTo(int what, int most, int atFirst) {
        CommaWill x = new CommaWill();
        DOC.due("at first", x.count(13 + what), atFirst);
        DOC.due("below 0", x.terms(what, -1), -1);
        DOC.due("beyond the most", x.terms(what, most + 1), -1);
        for (int far : new int[] {Integer.MIN_VALUE, Integer.MAX_VALUE}) {
            DOC.due("far", x.terms(what, far), -1);
        }
        DOC.due("as at first", x.count(13 + what), atFirst);
        DOC.due("the least", x.terms(what, 0), atFirst);
        DOC.due("is 0", x.count(13 + what), 0);
        DOC.due("the most", x.terms(what, most), 0);
        DOC.due("is the most", x.count(13 + what), most);
        DOC.due("beyond it again", x.terms(what, most + 1), -1);
        DOC.due("the most again", x.terms(what, most), most);
        int[] others = {0, 1000, 0, 1};
        for (int other = 0; other < 4; other++) {
            if (other != what) {
                DOC.due("the others stay", x.count(13 + other), others[other]);
            }
        }
    }

    private static void aNewObject() {
        DOC.says("`CommaWill()`: A WILL without NAMES.");
        CommaWill x = new CommaWill();
        int[] counts = {0, 6, 0, 0, 0, 0, 0, 0, 0, 0, 0, 0, -1, 0, 1000, 0, 1};
        for (int what = 0; what < counts.length; what++) {
            DOC.due("count " + what, x.count(what), counts[what]);
        }
        DOC.due("status", x.status(), 0);
        DOC.due("readings", x.readings(), 0);
        DOC.due("unlike", x.unlike(), 0);
        DOC.due("fits", x.fits(-1), 0);
        for (int p = 0; p < 6; p++) {
            DOC.due("named", x.of(p, 1), 0);
            DOC.due("barred", x.of(p, 2), 0);
            DOC.due("gets", x.gets(0, p), NONE);
            DOC.due("ruled", x.ruled(p), NONE);
            DOC.due("drawn", x.drawn(p), NONE);
            for (int what = 0; what < 3; what++) {
                DOC.due("range", x.range(p, what), NONE);
            }
        }
        for (int what = 0; what < 2; what++) {
            DOC.due("fair", x.fair(what), NONE);
            DOC.due("ask", x.ask(what), NONE);
            DOC.due("settle", x.settle(0, what), NONE);
        }
        DOC.due("depth", x.depth(0, 0), NONE);
        DOC.due("lost", x.lost(0), NONE);
        DOC.due("compare", x.compare(NONE, 0, 0), NONE);
        DOC.due("first of fits", x.fits(0), NONE);
    }

    private static void theFirstName() {
        DOC.says("with the JOIN ahead of it (KIND, MARK; 0, 0 for the first NAME): its number. -1; -5.");
        CommaWill x = new CommaWill();
        DOC.due("the first, kind 1", x.name(1, 0, 0), -1);
        DOC.due("the first, kind 2", x.name(2, 0, 0), -1);
        DOC.due("the first, mark 1", x.name(0, 1, 0), -1);
        DOC.due("the first, mark 3", x.name(0, 3, 0), -1);
        DOC.due("the first, kind -1", x.name(-1, 0, 0), -1);
        DOC.due("the first, mark -1", x.name(0, -1, 0), -1);
        DOC.due("none came", x.count(0), 0);
        DOC.due("the first", x.name(0, 0, 3), 0);
        DOC.due("no join is ahead of it", x.join(0, 0), NONE);
        DOC.due("the second, kind 2, mark 3", x.name(2, 3, 4), 1);
        DOC.due("kind", x.join(0, 0), 2);
        DOC.due("mark", x.join(0, 1), 3);
        for (int i = 2; i < 7; i++) {
            DOC.due("behind the others", x.name(1, 1, 0), i);
        }
        DOC.due("the eighth", x.name(2, 3, 5), -5);
        DOC.due("the eighth, kind 3", x.name(3, 3, 5), -1);
        DOC.due("the eighth, mark 4", x.name(2, 4, 5), -1);
        DOC.due("the eighth, person 6", x.name(2, 3, 6), -1);
    }

    private static void who() {
        DOC.says("Whose a NAME is. NONE.");
        CommaWill x = will("3&0&5");
        DOC.due("0", x.who(0), 3);
        DOC.due("the last", x.who(2), 5);
        DOC.due("behind the last", x.who(3), NONE);
        DOC.due("-1", x.who(-1), NONE);
        for (int far : FAR) {
            DOC.due("far", x.who(far), NONE);
        }
    }

    private static void join() {
        DOC.says("Of a JOIN KIND (what 0), MARK (1). NONE.");
        CommaWill x = will("3|10!35");
        DOC.due("kind 0", x.join(0, 0), OR);
        DOC.due("mark 0", x.join(0, 1), 1);
        DOC.due("kind 1", x.join(1, 0), BUT);
        DOC.due("mark 1", x.join(1, 1), 3);
        DOC.due("what -1", x.join(0, -1), NONE);
        DOC.due("what 2", x.join(0, 2), NONE);
        DOC.due("join -1", x.join(-1, 0), NONE);
        DOC.due("join 2", x.join(2, 1), NONE);
        for (int far : FAR) {
            DOC.due("far join", x.join(far, 0), NONE);
            DOC.due("far what", x.join(0, far), NONE);
        }
    }

    private static void of() {
        DOC.says("whether LIVING (what 0: 1, 0), how often the WILL has it (1), whether BARRED (2: 1, 0). NONE.");
        CommaWill x = lawful("5&5&0", "bars if heir = 5 or heir = 1");
        x.die(0);
        int[][] due = {{0, 1, 0}, {1, 0, 1}, {1, 0, 0}, {1, 0, 0}, {1, 0, 0}, {1, 2, 1}};
        for (int p = 0; p < 6; p++) {
            for (int what = 0; what < 3; what++) {
                DOC.due("of " + p + ", " + what, x.of(p, what), due[p][what]);
            }
            DOC.due("what -1", x.of(p, -1), NONE);
            DOC.due("what 3", x.of(p, 3), NONE);
        }
        for (int what = -1; what < 4; what++) {
            DOC.due("person -1", x.of(-1, what), NONE);
            DOC.due("person 6", x.of(6, what), NONE);
            for (int far : FAR) {
                DOC.due("far person", x.of(far, what), NONE);
            }
        }
        DOC.due("of no names", new CommaWill().of(5, 1), 0);
        DOC.due("of seven", will("1&1&1&1&1&1&1").of(1, 1), 7);
        x = lawful("0", "bars");
        for (int p = 0; p < 6; p++) {
            DOC.due("all are barred, named or not", x.of(p, 2), 1);
        }
    }

    private static void aTerm() {
        DOC.says("A TERM: what it was. -1.");
        CommaWill x = new CommaWill();
        DOC.due("what -1", x.terms(-1, 0), -1);
        DOC.due("what 4", x.terms(4, 0), -1);
        for (int far : FAR) {
            DOC.due("far", x.terms(far, 0), -1);
        }
        DOC.due("was", x.terms(1, 7), 1000);
        DOC.due("was 7", x.terms(1, 8), 7);
        DOC.due("as it is already", x.terms(1, 8), 8);
        DOC.due("the last term", x.terms(3, 2), 1);
        DOC.due("the first term", x.terms(0, 2), 0);
    }
}
