/** Terms IV and promises 37, 38 at their bounds. */
public final class YearsBoundsTest extends Wills {
    private static final Sentences DOC = new Sentences();
    private static final int[] SEEDS = {0, 1, 2, 8, 999, 123456, 906, 907, 999999, 1000000};

    private YearsBoundsTest() {
    }

    public static void main(String[] args) {
        seedsAndTimes();
        draws();
        manyDraws();
        endsAtTheLastYear();
        thatYearPassedToo();
        unlikeOneAtMost();
        onPaper();
        years();
        drawn();
        theLatest();
        DOC.finish();
    }

    private static void seedsAndTimes() {
        DOC.says("YEARS with a SEED, n 1 .. 60, on paper: s is the SEED (0 .. 1,000,000)");
        CommaWill x = new CommaWill();
        DOC.due("n 0", x.years(0, 0), -1);
        DOC.due("n -1", x.years(0, -1), -1);
        DOC.due("n 61", x.years(0, 61), -1);
        DOC.due("seed -1", x.years(-1, 1), -1);
        DOC.due("seed 1,000,001", x.years(1_000_001, 1), -1);
        DOC.due("n 1", x.years(0, 1), 1);
        DOC.due("n 60", x.years(0, 60), 60);
        DOC.due("seed 1,000,000", x.years(1_000_000, 1), 1);
        DOC.due("both at their most", x.years(1_000_000, 60), 60);
    }

    /** The DRAWS by the document's words, in wider numbers. */
    private static boolean[] paper(long seed, int n, boolean... living) {
        long s = seed;
        for (int i = 0; i < n; i++) {
            s = (s * 1103 + 12345) % 1_000_003;
            int person = (int) (s % 6);
            s = (s * 1103 + 12345) % 1_000_003;
            if (s % 3 == 0) {
                living[person] = false;
            } else if (s % 3 == 1) {
                living[person] = true;
            }
        }
        return living;
    }

    private static void draws() {
        DOC.says("DRAWS of 6, of 3: at 0 that PERSON is dead then, at 1 LIVING, at 2 as it was");
        CommaWill x = will("0&1");
        // 8: 21169, person 1; then 361683, which is 0 modulo 3.
        x.years(8, 1);
        DOC.due("dead", x.drawn(1), 0);
        x.die(1);
        x.years(8, 1);
        DOC.due("dead as before", x.drawn(1), 0);
        // 2: 14551, person 1; then 62050, which is 1 modulo 3.
        x.years(2, 1);
        DOC.due("living", x.drawn(1), 1);
        x.undo();
        x.years(2, 1);
        DOC.due("living as before", x.drawn(1), 1);
        // 0: 12345, person 3; then 628841, which is 2 modulo 3.
        x.years(0, 1);
        DOC.due("as it was", x.drawn(3), 1);
        x.die(3);
        x.years(0, 1);
        DOC.due("as it was", x.drawn(3), 0);
    }

    private static void manyDraws() {
        DOC.says("a DRAW of m: s becomes (s times 1103 and 12345) modulo 1,000,003, it is s modulo m");
        for (int seed : SEEDS) {
            for (int n : new int[] {1, 2, 3, 7, 59, 60}) {
                CommaWill x = new CommaWill();
                x.die(2);
                x.die(4);
                x.years(seed, n);
                boolean[] due = paper(seed, n, true, true, false, true, false, true);
                for (int p = 0; p < 6; p++) {
                    DOC.due("seed " + seed + ", n " + n + ", person " + p, x.drawn(p), due[p] ? 1 : 0);
                }
            }
        }
    }

    private static void endsAtTheLastYear() {
        DOC.says("Each time (at YEAR 999 it ends)");
        int[][] due = {{939, 60}, {940, 59}, {997, 2}, {998, 1}, {999, 0}};
        for (int[] pair : due) {
            CommaWill x = will("0");
            x.terms(0, pair[0]);
            DOC.due("from " + pair[0], x.years(12345, 60), pair[1]);
            boolean[] living = paper(12345, pair[1], true, true, true, true, true, true);
            for (int p = 0; p < 6; p++) {
                DOC.due("no draws behind the end", x.drawn(p), living[p] ? 1 : 0);
            }
            DOC.due("not refused", x.status(), 0);
            DOC.due("the year stays", x.count(13), pair[0]);
        }
    }

    private static void thatYearPassedToo() {
        DOC.says("behind how many of them (that YEAR passed, too) UNLIKE was 1 at most");
        // Unlike, unless all are barred; with 0 as the seed nobody of 0, 1, 2 dies in three years.
        CommaWill x = lawful("0&1&2", "bars if year = 1");
        DOC.due("of the first year", x.years(0, 1), 1);
        DOC.due("of the second not", x.years(0, 2), 1);
        x = lawful("0&1&2", "bars if year = 0");
        DOC.due("the year now counts not", x.years(0, 1), 0);
        x = lawful("0&1&2", "bars if year = 999");
        x.terms(0, 998);
        DOC.due("the last year counts", x.years(0, 60), 1);
        x.terms(0, 997);
        DOC.due("the one ahead of it not", x.years(0, 60), 1);
        x.terms(0, 999);
        DOC.due("none passes", x.years(0, 60), 0);
    }

    private static void unlikeOneAtMost() {
        DOC.says("UNLIKE was 1 at most");
        DOC.due("no names: 0", new CommaWill().years(0, 60), 60);
        DOC.due("one name: 1", will("0").years(0, 60), 60);
        DOC.due("two names: 1", will("0&1").years(0, 60), 60);
        DOC.due("two readings that give alike", will("0|0|0").years(0, 60), 60);
        DOC.due("two that do not", will("0&1&2").years(0, 1), 0);
        CommaWill x = will("0&1|2");
        DOC.due("all living: alike", x.years(0, 1), 1);
        DOC.due("1 dead: unlike", x.years(8, 1), 0);
        x.mark(0, 1);
        DOC.due("one reading by a mark", x.years(8, 1), 1);
        x = lawful("4&5&5", "taxes 100 if heir = 4");
        DOC.due("unlike in the last person alone", x.years(0, 1), 0);
        x = lawful("0&0&1", "taxes 100 if heir = 1");
        DOC.due("unlike in the first person alone", x.years(0, 1), 0);
        x = will("0&1&2");
        DOC.due("two readings", x.years(0, 1), 0);
        x.mark(0, 1);
        DOC.due("one of them behind a mark", x.years(0, 1), 1);
        x = will("0|1|2|3&4");
        DOC.due("14 readings", x.years(0, 1), 0);
        x.mark(3, 1);
        DOC.due("the and on top: five that give alike", x.years(0, 1), 1);
    }

    private static void onPaper() {
        DOC.says("on paper");
        CommaWill x = lawful("0&1|2", "shares 10");
        x.pass();
        int[] before = new int[6];
        for (int p = 0; p < 6; p++) {
            before[p] = x.gets(0, p);
        }
        x.years(8, 60);
        DOC.due("year", x.count(13), 1);
        DOC.due("living", x.count(1), 6);
        DOC.due("what can be undone", x.count(5), 1);
        for (int p = 0; p < 6; p++) {
            DOC.due("gets", x.gets(0, p), before[p]);
        }
        DOC.due("again from the start", x.years(8, 60), x.years(8, 60));
    }

    private static void years() {
        DOC.says("YEARS, kept as the latest: behind how many of them");
        CommaWill x = will("0&1&2");
        x.years(8, 1);
        DOC.due("kept", x.drawn(1), 0);
        DOC.due("refused by n", x.years(0, 61), -1);
        DOC.due("refused by the seed", x.years(1_000_001, 60), -1);
        for (int far : FAR) {
            DOC.due("far n", x.years(0, far), -1);
        }
        DOC.due("far seed", x.years(Integer.MAX_VALUE, 1), -1);
        DOC.due("far seed", x.years(Integer.MIN_VALUE, 1), -1);
        DOC.due("the latest that was not refused", x.drawn(1), 0);
        x.years(2, 1);
        DOC.due("the latest", x.drawn(1), 1);
    }

    private static void drawn() {
        DOC.says("Behind the latest YEARS whether a PERSON is LIVING (1, 0). NONE.");
        CommaWill x = will("0&1");
        for (int p = 0; p < 6; p++) {
            DOC.due("ahead of any", x.drawn(p), NONE);
        }
        x.years(0, 0);
        DOC.due("ahead of any that was not refused", x.drawn(0), NONE);
        x.years(8, 1);
        int[] due = {1, 0, 1, 1, 1, 1};
        for (int p = 0; p < 6; p++) {
            DOC.due("person " + p, x.drawn(p), due[p]);
        }
        DOC.due("person 6", x.drawn(6), NONE);
        DOC.due("person -1", x.drawn(-1), NONE);
        for (int far : FAR) {
            DOC.due("far", x.drawn(far), NONE);
        }
    }

    private static void theLatest() {
        DOC.says("Behind the latest YEARS");
        CommaWill x = will("0&1");
        x.image(0);
        x.years(8, 1);
        x.die(0);
        DOC.due("a death later on is not in them", x.drawn(0), 1);
        x.back(0);
        DOC.due("an image keeps them not", x.drawn(1), 0);
        for (int p = 0; p < 6; p++) {
            x.die(p);
        }
        x.terms(0, 999);
        x.years(2, 60);
        for (int p = 0; p < 6; p++) {
            DOC.due("no year passed: as it stands", x.drawn(p), 0);
        }
    }
}
