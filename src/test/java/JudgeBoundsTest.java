/** What was told, judges, chances at their bounds: promises 29 to 35. */
public final class JudgeBoundsTest extends Wills {
    private static final Sentences DOC = new Sentences();
    private static final long WHOLE = 1_000_000_000_000L;

    private JudgeBoundsTest() {
    }

    public static void main(String[] args) {
        sixTold();
        told();
        allToldIsSo();
        fits();
        asked();
        askedIsTheLowest();
        ask();
        fiveJudges();
        judge();
        moreThanHalf();
        numberWithoutAReading();
        ruled();
        forget();
        fewInTen();
        fewAreCut();
        few();
        DOC.finish();
    }

    private static void sixTold() {
        DOC.says("TOLD, 6 at most: a PERSON gets 0 .. 9999.");
        CommaWill x = new CommaWill();
        DOC.due("none at first", x.count(2), 0);
        for (int i = 1; i <= 6; i++) {
            DOC.due("told", x.told(i % 6, i % 2 * 9999), i);
            DOC.due("so many", x.count(2), i);
        }
        DOC.due("the seventh", x.told(0, 0), -5);
        DOC.due("six", x.count(2), 6);
    }

    private static void told() {
        DOC.says("TOLD: how often there was. -1; -5.");
        CommaWill x = new CommaWill();
        DOC.due("person -1", x.told(-1, 0), -1);
        DOC.due("person 6", x.told(6, 0), -1);
        DOC.due("below 0", x.told(0, -1), -1);
        DOC.due("10000", x.told(0, 10000), -1);
        for (int far : FAR) {
            DOC.due("far person", x.told(far, 0), -1);
        }
        DOC.due("far below", x.told(0, Integer.MIN_VALUE), -1);
        DOC.due("far above", x.told(0, Integer.MAX_VALUE), -1);
        DOC.due("none", x.count(2), 0);
        DOC.due("person 0, 0", x.told(0, 0), 1);
        DOC.due("person 5, 9999", x.told(5, 9999), 2);
        for (int i = 3; i <= 6; i++) {
            DOC.due("the same again", x.told(5, 9999), i);
        }
        DOC.due("no room", x.told(5, 9999), -5);
        DOC.due("no room, a number that can't be", x.told(6, 9999), -1);
        DOC.due("no room, a number that can't be", x.told(5, 10000), -1);
    }

    private static void allToldIsSo() {
        DOC.says("FITTING: READINGS in which all TOLD is so.");
        CommaWill x = will("0&1&2&3");
        DOC.due("nothing told: all fit", x.fits(NONE), 5);
        x.told(5, 0);
        DOC.due("what is so in all", x.fits(NONE), 5);
        x.told(0, 250);
        DOC.due("two", x.fits(NONE), 2);
        DOC.due("2", x.fits(0), 2);
        DOC.due("3", x.fits(1), 3);
        x.told(3, 500);
        DOC.due("one", x.fits(NONE), 1);
        DOC.due("3", x.fits(0), 3);
        x.told(0, 250);
        x.told(0, 250);
        DOC.due("five told", x.fits(NONE), 1);
        x.told(0, 251);
        DOC.due("the sixth is not so", x.fits(NONE), 0);
        x = will("0");
        x.terms(1, 9999);
        x.told(0, 9999);
        DOC.due("the most", x.fits(NONE), 1);
        x.terms(1, 9998);
        DOC.due("one less", x.fits(NONE), 0);
    }

    private static void fits() {
        DOC.says("FITTING: how many READINGS (i NONE), the i-th. NONE.");
        CommaWill x = new CommaWill();
        DOC.due("no names", x.fits(NONE), 0);
        DOC.due("no first", x.fits(0), NONE);
        write(x, "0&1&2&3&4&5&0");
        DOC.due("all", x.fits(NONE), 132);
        DOC.due("the first", x.fits(0), 0);
        DOC.due("the last", x.fits(131), 131);
        DOC.due("no more", x.fits(132), NONE);
        DOC.due("-2", x.fits(-2), NONE);
        for (int far : FAR) {
            DOC.due("far", x.fits(far), NONE);
        }
        x = will("0&1&2");
        x.told(2, 500);
        DOC.due("one", x.fits(NONE), 1);
        DOC.due("which", x.fits(0), 1);
        DOC.due("no second", x.fits(1), NONE);
    }

    private static void asked() {
        DOC.says("To ASK: the PERSON of whom the most of these that give it alike are as few as can be");
        CommaWill x = will("0&1&2&3");
        // 0: 500 500 250 250 125, 1: 250 125 250 125 125, 2: 125 125 125 250 250, 3: 125 250 250 500 500.
        int[][] due = {{500, 250, 125, 125}, {500, 125, 125, 250}, {250, 250, 250, 250},
            {250, 125, 125, 500}, {125, 125, 250, 500}};
        for (int r = 0; r < 5; r++) {
            for (int p = 0; p < 4; p++) {
                DOC.due("gets", x.gets(r, p), due[r][p]);
            }
        }
        DOC.due("whom", x.ask(0), 0);
        DOC.due("two are left at most", x.ask(1), 2);
        x.told(0, 250);
        DOC.due("of 2, 3 the second is asked", x.ask(0), 1);
        DOC.due("one is left", x.ask(1), 1);
        x.told(1, 250);
        DOC.due("one is left: the lowest", x.ask(0), 0);
        DOC.due("one", x.ask(1), 1);
    }

    private static void askedIsTheLowest() {
        DOC.says("are as few as can be; the lowest.");
        CommaWill x = will("4&5&3");
        DOC.due("3 and 4 tell both readings apart", x.ask(0), 3);
        DOC.due("one is left", x.ask(1), 1);
        x = will("5|5|5|5");
        DOC.due("all alike", x.ask(0), 0);
        DOC.due("all are left", x.ask(1), 5);
        x = will("0&1&2&3");
        x.ask(0);
        x.mark(0, 1);
        DOC.due("two are left behind a mark", x.fits(NONE), 2);
        DOC.due("1 tells them apart", x.ask(0), 1);
        DOC.due("one is left", x.ask(1), 1);
        askedOfSevenNames();
        x = will("0&0&0&5&5");
        DOC.due("0 as well as 5", x.ask(0), 0);
    }

    private static void askedOfSevenNames() {
        for (String sentence : new String[] {"0&1&2&3&4&5&0", "0|1&2|3&4!5&0", "5&4|3&2|1&0!5"}) {
            CommaWill x = will(sentence);
            int whom = NONE;
            int left = 133;
            for (int p = 0; p < 6; p++) {
                int[] alike = new int[1001];
                int most = 0;
                for (int r = 0; r < 132; r++) {
                    alike[x.gets(r, p)]++;
                    most = Math.max(most, alike[x.gets(r, p)]);
                }
                if (most < left) {
                    whom = p;
                    left = most;
                }
            }
            DOC.due("whom of " + sentence, x.ask(0), whom);
            DOC.due("left of " + sentence, x.ask(1), left);
        }
    }

    private static void ask() {
        DOC.says("To ASK: the PERSON (what 0), how many READINGS are left at most (1). NONE (none FITS).");
        CommaWill x = will("0&1&2");
        DOC.due("person", x.ask(0), 0);
        DOC.due("left", x.ask(1), 1);
        DOC.due("what 2", x.ask(2), NONE);
        DOC.due("what -1", x.ask(-1), NONE);
        for (int far : FAR) {
            DOC.due("far", x.ask(far), NONE);
        }
        x.told(0, 1);
        for (int what = 0; what < 2; what++) {
            DOC.due("none fits", x.ask(what), NONE);
            DOC.due("no readings", new CommaWill().ask(what), NONE);
        }
        DOC.due("one reading", will("3").ask(0), 0);
        DOC.due("one is left", will("3").ask(1), 1);
    }

    private static void fiveJudges() {
        DOC.says("JUDGES, 5 at most: each holds a READING by its number 0 .. 131.");
        CommaWill x = new CommaWill();
        DOC.due("none at first", x.count(3), 0);
        for (int i = 1; i <= 5; i++) {
            DOC.due("a judge", x.judge(i % 2 * 131), i);
            DOC.due("so many", x.count(3), i);
        }
        DOC.due("the sixth", x.judge(0), -5);
        DOC.due("five", x.count(3), 5);
    }

    private static void judge() {
        DOC.says("A JUDGE holds a READING: how many JUDGES there are. -1 (0 .. 131); -5.");
        CommaWill x = new CommaWill();
        DOC.due("-1", x.judge(-1), -1);
        DOC.due("132", x.judge(132), -1);
        for (int far : FAR) {
            DOC.due("far", x.judge(far), -1);
        }
        DOC.due("none", x.count(3), 0);
        DOC.due("131, though there is no reading", x.judge(131), 1);
        for (int i = 2; i <= 5; i++) {
            DOC.due("0", x.judge(0), i);
        }
        DOC.due("no room", x.judge(0), -5);
        DOC.due("no room for 131", x.judge(131), -5);
        DOC.due("no room, a number that can't be", x.judge(132), -1);
        DOC.due("no room, a number that can't be", x.judge(-1), -1);
    }

    /** What the judges of these readings of "0&1&2" rule for 0. */
    private static int rule(int... readings) {
        CommaWill x = will("0&1&2");
        for (int r : readings) {
            x.judge(r);
        }
        return x.ruled(0);
    }

    private static void moreThanHalf() {
        DOC.says("RULED: what more than half of the JUDGES' READINGS give to a PERSON");
        DOC.due("no judges", rule(), NONE);
        DOC.due("one", rule(1), 250);
        DOC.due("two", rule(0, 0), 500);
        DOC.due("one of two", rule(0, 1), NONE);
        DOC.due("two of three", rule(1, 0, 1), 250);
        DOC.due("two of three", rule(1, 0, 0), 500);
        DOC.due("two of four", rule(0, 0, 1, 1), NONE);
        DOC.due("three of four", rule(0, 1, 1, 1), 250);
        DOC.due("three of five", rule(0, 0, 1, 1, 1), 250);
        DOC.due("three of five", rule(0, 1, 0, 1, 0), 500);
        CommaWill x = will("0&1&2");
        x.judge(0);
        x.judge(1);
        DOC.due("unlike readings that give alike", x.ruled(1), 250);
        DOC.due("nothing, to one not named", x.ruled(5), 0);
    }

    private static void numberWithoutAReading() {
        DOC.says("(a number without a READING gives nothing that counts)");
        DOC.due("2 alone", rule(2), NONE);
        DOC.due("one of two", rule(0, 2), NONE);
        DOC.due("two of three", rule(0, 0, 131), 500);
        DOC.due("two of four", rule(0, 0, 131, 2), NONE);
        DOC.due("two of five", rule(0, 0, 131, 131, 131), NONE);
        DOC.due("three of five", rule(1, 1, 131, 131, 1), 250);
        CommaWill x = new CommaWill();
        x.judge(0);
        DOC.due("no names", x.ruled(0), NONE);
        x.name(0, 0, 3);
        DOC.due("reading 0 is there then", x.ruled(3), 1000);
        DOC.due("it gives nothing to others", x.ruled(0), 0);
    }

    private static void ruled() {
        DOC.says("RULED. NONE (nothing that more than half give).");
        CommaWill x = will("0&1&5");
        x.judge(1);
        DOC.due("person 0", x.ruled(0), 250);
        DOC.due("person 5", x.ruled(5), 500);
        DOC.due("person 6", x.ruled(6), NONE);
        DOC.due("person -1", x.ruled(-1), NONE);
        for (int far : FAR) {
            DOC.due("far", x.ruled(far), NONE);
        }
        x.judge(0);
        DOC.due("half", x.ruled(0), NONE);
    }

    private static void forget() {
        DOC.says("TOLD, JUDGES are none then: how many there were, together.");
        CommaWill x = will("0&1&2");
        DOC.due("none", x.forget(), 0);
        for (int i = 0; i < 6; i++) {
            x.told(0, 1);
            x.judge(0);
        }
        DOC.due("all", x.forget(), 11);
        DOC.due("no told", x.count(2), 0);
        DOC.due("no judges", x.count(3), 0);
        DOC.due("all fit again", x.fits(NONE), 2);
        DOC.due("none rules", x.ruled(0), NONE);
        DOC.due("none", x.forget(), 0);
        DOC.due("room to tell", x.told(0, 500), 1);
        DOC.due("room for a judge", x.judge(1), 1);
        DOC.due("both", x.forget(), 2);
        x.told(0, 0);
        DOC.due("told alone", x.forget(), 1);
        x.judge(0);
        DOC.due("a judge alone", x.forget(), 1);
    }

    private static void fewInTen() {
        DOC.says("FEW: the chance, of 1,000,000,000,000 parts, that of n marks, each of which slips in SLIPS of ten,"
                + " fewer than k slip");
        CommaWill x = new CommaWill();
        DOC.due("no slip of one", x.few(1, 1), WHOLE / 10 * 9);
        DOC.due("at most one of one", x.few(2, 1), WHOLE);
        DOC.due("no slip of two", x.few(1, 2), WHOLE / 100 * 81);
        DOC.due("at most one of two", x.few(2, 2), WHOLE / 100 * 99);
        DOC.due("at most two of three", x.few(3, 3), WHOLE / 1000 * 999);
        DOC.due("at most one of twelve", x.few(2, 12), 659_002_251_789L);
        x.terms(3, 0);
        DOC.due("none slips", x.few(1, 99), WHOLE);
        DOC.due("none slips", x.few(20, 99), WHOLE);
        x.terms(3, 10);
        DOC.due("all slip", x.few(1, 1), 0);
        DOC.due("all slip", x.few(20, 20), 0);
        DOC.due("nineteen are fewer than twenty", x.few(20, 19), WHOLE);
        DOC.due("all of 99", x.few(20, 99), 0);
        x.terms(3, 9);
        DOC.due("one does not", x.few(1, 1), WHOLE / 10);
        DOC.due("one does not", x.few(2, 2), WHOLE / 100 * 19);
    }

    private static void fewAreCut() {
        DOC.says("each part is cut.");
        CommaWill x = new CommaWill();
        DOC.due("none of twelve", x.few(1, 12), 282_429_536_481L);
        DOC.due("none of thirteen", x.few(1, 13), 254_186_582_832L);
        DOC.due("none of fourteen", x.few(1, 14), 228_767_924_548L);
        x.terms(3, 5);
        DOC.due("half, twelve times", x.few(1, 12), 244_140_625L);
        DOC.due("and once more", x.few(1, 13), 122_070_312L);
        DOC.due("and once more", x.few(1, 14), 61_035_156L);
        x.terms(3, 9);
        DOC.due("the last part", x.few(1, 12), 1);
        DOC.due("no part", x.few(1, 13), 0);
        DOC.due("no part", x.few(1, 99), 0);
    }

    private static void few() {
        DOC.says("FEW, k 1 .. 20, n 0 .. 99. NONE.");
        CommaWill x = new CommaWill();
        DOC.due("k 0", x.few(0, 1), NONE);
        DOC.due("k 1", x.few(1, 1), WHOLE / 10 * 9);
        DOC.due("k 20", x.few(20, 1), WHOLE);
        DOC.due("k 21", x.few(21, 1), NONE);
        DOC.due("k -1", x.few(-1, 1), NONE);
        DOC.due("n -1", x.few(1, -1), NONE);
        DOC.due("n 0", x.few(1, 0), WHOLE);
        DOC.due("n 0, k 20", x.few(20, 0), WHOLE);
        DOC.due("n 99", x.few(1, 99) > 0 ? 1 : 0, 1);
        DOC.due("n 100", x.few(1, 100), NONE);
        for (int far : FAR) {
            DOC.due("far k", x.few(far, 1), NONE);
            DOC.due("far n", x.few(1, far), NONE);
        }
        DOC.due("the same behind another k", x.few(20, 99) > x.few(1, 99) ? 1 : 0, 1);
        DOC.due("the same again", x.few(1, 1), WHOLE / 10 * 9);
    }
}
