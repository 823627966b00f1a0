/** Images, counts, the status at their bounds: promises 39 to 42. */
public final class ImageBoundsTest extends Wills {
    private static final Sentences DOC = new Sentences();

    private ImageBoundsTest() {
    }

    public static void main(String[] args) {
        image();
        back();
        allIsAsItWasThen();
        whatImagesKeepNot();
        nothingToUndoBehindBack();
        imagesStay();
        imagesAreApart();
        imagesOverOneAnother();
        fullImages();
        counts();
        refusalsAreCounted();
        othersAreNotCounted();
        refusalsAreNotKept();
        countNone();
        statusOfEach();
        statusOfOthers();
        DOC.finish();
    }

    private static void image() {
        DOC.says("IMAGE k is kept: 0; -1.");
        CommaWill x = will("0");
        DOC.due("-1", x.image(-1), -1);
        DOC.due("2", x.image(2), -1);
        for (int far : FAR) {
            DOC.due("far", x.image(far), -1);
        }
        DOC.due("none was kept", x.back(0), -2);
        DOC.due("0", x.image(0), 0);
        DOC.due("1", x.image(1), 0);
        DOC.due("0 again", x.image(0), 0);
        x.name(0, 0, 1);
        DOC.due("kept anew", x.image(0), 0);
        x.name(0, 0, 2);
        x.back(0);
        DOC.due("the newer one", x.count(0), 2);
        x.back(1);
        DOC.due("the other one", x.count(0), 1);
    }

    private static void back() {
        DOC.says("BACK to IMAGE k: 0. -1; -2 it was not kept.");
        CommaWill x = will("0");
        DOC.due("-1", x.back(-1), -1);
        DOC.due("2", x.back(2), -1);
        for (int far : FAR) {
            DOC.due("far", x.back(far), -1);
        }
        DOC.due("0 was not kept", x.back(0), -2);
        DOC.due("1 was not kept", x.back(1), -2);
        x.image(0);
        DOC.due("0", x.back(0), 0);
        DOC.due("1 was not kept yet", x.back(1), -2);
        x.image(1);
        DOC.due("1", x.back(1), 0);
        x = will("0");
        x.image(1);
        DOC.due("0 was not kept", x.back(0), -2);
        DOC.due("1", x.back(1), 0);
    }

    /** All that an image keeps is another one than at first. */
    private static CommaWill rich() {
        CommaWill x = will("0&11|22!33");
        law(x, "shares 10");
        law(x, "shares 20; bars if heir = 4");
        x.force(1);
        x.told(1, 800);
        x.told(0, 200);
        x.judge(0);
        x.terms(0, 7);
        x.terms(2, 8);
        x.terms(3, 9);
        x.die(5);
        return x;
    }

    private static void spoil(CommaWill x) {
        x.forget();
        x.told(3, 3);
        x.judge(77);
        x.judge(78);
        law(x, "taxes 50");
        x.force(2);
        x.mark(0, 3);
        x.turn(1, 2);
        x.die(0);
        x.name(1, 1, 1);
        x.terms(0, 1);
        x.terms(1, 1);
        x.terms(2, 1);
        x.terms(3, 1);
    }

    private static void isRich(CommaWill x) {
        int[] counts = {4, 5, 2, 1, 2};
        for (int what = 0; what < counts.length; what++) {
            DOC.due("count " + what, x.count(what), counts[what]);
        }
        int[] terms = {1, 7, 1000, 8, 9};
        for (int i = 0; i < terms.length; i++) {
            DOC.due("count " + (12 + i), x.count(12 + i), terms[i]);
        }
        for (int i = 0; i < 4; i++) {
            DOC.due("who", x.who(i), i);
        }
        for (int j = 0; j < 3; j++) {
            DOC.due("kind", x.join(j, 0), j);
            DOC.due("mark", x.join(j, 1), j + 1);
        }
        DOC.due("no name 4", x.who(4), NONE);
        DOC.due("living", x.of(0, 0), 1);
        DOC.due("dead", x.of(5, 0), 0);
        DOC.due("barred", x.of(4, 2), 1);
        DOC.due("readings", x.readings(), 1);
        DOC.due("gets", x.gets(0, 0), 200);
        DOC.due("by law 0", x.compare(0, 0, 0), 100);
        DOC.due("what was told", x.fits(NONE), 1);
        DOC.due("what the judge holds", x.ruled(0), 200);
    }

    private static void allIsAsItWasThen() {
        DOC.says("BACK to one all that it keeps is as it was then");
        CommaWill x = rich();
        isRich(x);
        x.image(0);
        spoil(x);
        DOC.due("spoilt", x.count(0), 5);
        x.back(0);
        isRich(x);
        CommaWill y = new CommaWill();
        y.image(1);
        write(y, "0&1");
        DOC.due("a reading", y.readings(), 1);
        spoil(y);
        y.back(1);
        DOC.due("without names", y.count(0), 0);
        DOC.due("all living", y.count(1), 6);
        DOC.due("no law", y.count(4), 0);
        DOC.due("none in force", y.count(12), NONE);
        DOC.due("worth", y.count(14), 1000);
        DOC.due("slips", y.count(16), 1);
        DOC.due("no readings", y.readings(), 0);
        DOC.due("the first name again", y.name(0, 0, 5), 0);
        DOC.due("the first law again", law(y, "bars"), 0);
    }

    private static void whatImagesKeepNot() {
        DOC.says("IMAGES 0, 1 keep all but the TAPE, FAULT, BLOTS, where ORDERS stopped, what can be undone"
                + " (nothing, behind back()), the latest YEARS");
        CommaWill x = will("0&1");
        x.image(0);
        row(x, 9, 9, 9, 9);
        orders(x, "pass; die 9");
        law(x, "bars x");
        x.years(8, 1);
        x.pass();
        x.feed(0, 0, 0, 0, 0);
        x.back(0);
        DOC.due("the tape", x.count(6), 20);
        DOC.due("fault", x.fault(), 5);
        DOC.due("blots", x.blots(), 2);
        DOC.due("where orders stopped", x.stopped(), 1);
        DOC.due("the latest years", x.drawn(1), 0);
        DOC.due("what can be undone", x.count(5), 0);
        x.image(1);
        x.end(0);
        row(x, 0, 0, 0);
        orders(x, "pass if 1=2");
        x.years(2, 1);
        x.back(1);
        DOC.due("the tape is not as it was then", x.count(6), 0);
        DOC.due("nor fault", x.fault(), NONE);
        DOC.due("nor blots", x.blots(), 0);
        DOC.due("nor where orders stopped", x.stopped(), NONE);
        DOC.due("nor the latest years", x.drawn(1), 1);
    }

    private static void nothingToUndoBehindBack() {
        DOC.says("(nothing, behind back())");
        CommaWill x = will("0&1");
        x.pass();
        x.image(0);
        DOC.due("an image leaves it", x.count(5), 1);
        x.back(0);
        DOC.due("nothing", x.count(5), 0);
        DOC.due("nothing", x.undo(), -3);
        DOC.due("the year stays", x.count(13), 1);
        x.pass();
        x.back(1);
        DOC.due("a refused one leaves it", x.count(5), 1);
        x.back(0);
        x.die(0);
        DOC.due("what comes behind it can be", x.undo(), 2);
        DOC.due("that alone", x.undo(), -3);
    }

    private static void imagesStay() {
        DOC.says("(IMAGES stay)");
        CommaWill x = will("0");
        x.image(0);
        x.name(0, 0, 1);
        x.image(1);
        for (int i = 0; i < 3; i++) {
            DOC.due("back to 0", x.back(0), 0);
            DOC.due("one name", x.count(0), 1);
            DOC.due("back to 1", x.back(1), 0);
            DOC.due("two names", x.count(0), 2);
        }
    }

    private static void imagesAreApart() {
        DOC.says("IMAGES 0, 1 keep all");
        CommaWill x = rich();
        x.image(0);
        spoil(x);
        x.image(1);
        spoil(x);
        x.back(0);
        isRich(x);
        spoil(x);
        x.back(0);
        isRich(x);
        x.back(1);
        DOC.due("the other one", x.count(0), 5);
        DOC.due("its told", x.count(2), 1);
        DOC.due("its judges", x.count(3), 2);
        DOC.due("its laws", x.count(4), 3);
        DOC.due("its force", x.count(12), 2);
        DOC.due("its kind", x.join(1, 0), 2);
        DOC.due("its worth", x.count(14), 1);
    }

    private static void imagesOverOneAnother() {
        DOC.says("all gone back to");
        CommaWill x = new CommaWill();
        x.image(0);
        write(x, "3|24");
        law(x, "shares 10; taxes 10");
        x.told(3, 900);
        x.judge(0);
        x.force(0);
        DOC.due("readings", x.readings(), 1);
        x.image(1);
        x.back(0);
        DOC.due("no readings", x.readings(), 0);
        DOC.due("nobody's", x.who(0), NONE);
        write(x, "1&2");
        law(x, "shares 20");
        x.told(1, 7);
        x.judge(9);
        x.force(0);
        DOC.due("by another law 0", x.gets(0, 1), 200);
        x.back(1);
        DOC.due("who", x.who(0), 3);
        DOC.due("who", x.who(1), 4);
        DOC.due("kind", x.join(0, 0), OR);
        DOC.due("mark", x.join(0, 1), 2);
        DOC.due("gets", x.gets(0, 3), 900);
        DOC.due("what was told", x.fits(NONE), 1);
        DOC.due("what the judge holds", x.ruled(3), 900);
        x.back(0);
        DOC.due("none again", x.readings(), 0);
        DOC.due("no law", x.force(0), -2);
    }

    private static void fullImages() {
        DOC.says("all that it keeps is as it was then");
        CommaWill x = will("0&11|22!33&04|15!20");
        for (int i = 0; i < 6; i++) {
            x.told(i, i);
            x.judge(i);
            law(x, "shares " + (10 + i));
        }
        x.image(0);
        x.image(1);
        x.force(3);
        x.back(0);
        DOC.due("seven names", x.count(0), 7);
        DOC.due("the seventh", x.who(6), 0);
        DOC.due("the sixth join", x.join(5, 0), 2);
        DOC.due("its mark", x.join(5, 1), 2);
        DOC.due("six told", x.count(2), 6);
        DOC.due("five judges", x.count(3), 5);
        DOC.due("six laws", x.count(4), 6);
        DOC.due("no room for a name", x.name(0, 0, 0), -5);
        DOC.due("no room to tell", x.told(0, 0), -5);
        DOC.due("no room for a judge", x.judge(0), -5);
        DOC.due("no room for a law", law(x, "bars"), -5);
        x.force(5);
        DOC.due("the sixth law", x.compare(5, 0, 0), x.gets(0, 0));
    }

    private static void counts() {
        DOC.says("0 NAMES, 1 LIVING PERSONS, 2 TOLD, 3 JUDGES, 4 LAWS, 5 how many can be undone, 6 bytes of the TAPE");
        CommaWill x = will("0&1&2&3&4&5&0");
        for (int i = 0; i < 6; i++) {
            x.told(0, 0);
            x.judge(0);
            law(x, "bars");
        }
        for (int p = 0; p < 6; p++) {
            x.die(p);
        }
        orders(x, "pass times 20");
        for (int i = 0; i < 20; i++) {
            x.feed(0, 0, 0, 0, 0);
        }
        int[] most = {7, 0, 6, 5, 6, 16, 400};
        int[] least = {0, 6, 0, 0, 0, 0, 0};
        CommaWill y = new CommaWill();
        for (int what = 0; what < most.length; what++) {
            DOC.due("full: " + what, x.count(what), most[what]);
            DOC.due("empty: " + what, y.count(what), least[what]);
        }
    }

    private static void refusalsAreCounted() {
        DOC.says("7 .. 11 how many calls were REFUSED by -1, -2, -3, -5, -6");
        CommaWill x = new CommaWill();
        x.name(0, 0, 6);
        x.terms(4, 0);
        x.die(6);
        x.told(6, 0);
        x.judge(132);
        x.years(0, 0);
        x.image(2);
        x.back(2);
        x.mark(0, 4);
        x.turn(0, 3);
        DOC.due("by -1", x.count(7), 10);
        x.mark(0, 1);
        x.turn(0, 1);
        x.force(0);
        x.back(0);
        DOC.due("by -2", x.count(8), 4);
        x.undo();
        orders(x, "die 9");
        x.die(0);
        x.die(0);
        DOC.due("by -3", x.count(9), 3);
        DOC.due("none by -5", x.count(10), 0);
        for (int i = 0; i < 7; i++) {
            x.judge(0);
            x.told(0, 0);
        }
        DOC.due("by -5", x.count(10), 3);
        x.law();
        x.orders();
        x.row();
        DOC.due("by -6", x.count(11), 3);
        int[] due = {10, 4, 3, 3, 3};
        for (int i = 0; i < 5; i++) {
            DOC.due("each by itself", x.count(7 + i), due[i]);
        }
    }

    private static void othersAreNotCounted() {
        DOC.says("how many calls were REFUSED");
        CommaWill x = will("0&1");
        x.turn(0, 1);
        DOC.due("0 is an answer", x.turn(0, 0), 1);
        DOC.due("0 is an answer", x.turn(0, 2), 0);
        for (int p = 0; p < 5; p++) {
            x.die(p);
        }
        DOC.due("0 is an answer", x.die(5), 0);
        x.mark(0, 1);
        DOC.due("0 is an answer", x.undo(), 0);
        DOC.due("-1 is an answer", x.force(NONE), NONE);
        x.pass();
        x.terms(0, 0);
        x.image(0);
        x.back(0);
        x.years(0, 1);
        row(x, 9);
        law(x, "bars");
        orders(x, "die 9 if 1=2");
        x.told(0, 0);
        x.judge(0);
        for (int what = 7; what <= 11; what++) {
            DOC.due("none: " + what, x.count(what), 0);
        }
    }

    private static void refusalsAreNotKept() {
        DOC.says("(IMAGES do not keep that)");
        CommaWill x = new CommaWill();
        x.name(0, 0, 6);
        x.image(0);
        x.name(0, 0, 6);
        x.undo();
        x.back(0);
        DOC.due("two by -1", x.count(7), 2);
        DOC.due("one by -3", x.count(9), 1);
    }

    private static void countNone() {
        DOC.says("12 the LAW in FORCE, 13 .. 16 TERMS 0 .. 3. NONE for others.");
        CommaWill x = will("0");
        DOC.due("none in force", x.count(12), NONE);
        law(x, "bars");
        law(x, "bars");
        x.force(1);
        DOC.due("1 in force", x.count(12), 1);
        x.terms(0, 999);
        x.terms(1, 9999);
        x.terms(2, 9);
        x.terms(3, 10);
        DOC.due("year", x.count(13), 999);
        DOC.due("worth", x.count(14), 9999);
        DOC.due("mood", x.count(15), 9);
        DOC.due("slips", x.count(16), 10);
        DOC.due("17", x.count(17), NONE);
        DOC.due("-1", x.count(-1), NONE);
        for (int far : FAR) {
            DOC.due("far", x.count(far), NONE);
        }
    }

    private static void after(CommaWill x, String call, int status) {
        DOC.due(call, x.status(), status);
    }

    private static void statusOfEach() {
        DOC.says("What the latest call of name, terms, row, law, orders, force, mark, turn, die, pass, undo, told,"
                + " judge, years, image, back was REFUSED by; 0 if it was not, or ahead of any.");
        CommaWill x = new CommaWill();
        after(x, "ahead of any", 0);
        int[] answers = {x.name(0, 0, 6), x.status(), x.name(0, 0, 0), x.status(),
            x.terms(4, 0), x.status(), x.terms(0, 0), x.status(),
            x.row(), x.status(), row(x, 0, 0, 1), x.status(),
            x.law(), x.status(), law(x, "bars if 1=2"), x.status(),
            orders(x, "die 9"), x.status(), orders(x, "die 5"), x.status(),
            x.orders(), x.status(), orders(x, "pass"), x.status(),
            x.force(9), x.status(), x.force(0), x.status(),
            x.mark(0, 4), x.status(), x.mark(0, 1), x.status(),
            x.mark(1, 1), x.status(), x.turn(0, 1), x.status(),
            x.turn(0, 1), x.status(), x.die(0), x.status(),
            x.die(0), x.status(), x.pass(), x.status(),
            x.told(6, 0), x.status(), x.undo(), x.status(),
            x.judge(132), x.status(), x.told(0, 0), x.status(),
            x.years(0, 0), x.status(), x.judge(0), x.status(),
            x.image(2), x.status(), x.years(0, 1), x.status(),
            x.back(0), x.status(), x.image(0), x.status(),
            x.back(2), x.status(), x.back(0), x.status()};
        int[] refused = {-1, -1, -6, -6, -3, -6, -2, -1, -2, -3, -3, -1, -1, -1, -1, -2, -1};
        for (int i = 0; i < refused.length; i++) {
            DOC.due("answer of refused " + i, answers[4 * i], refused[i]);
            DOC.due("status of refused " + i, answers[4 * i + 1], refused[i]);
            DOC.due("no refusal " + i, answers[4 * i + 2] >= -1 ? 1 : 0, 1);
            DOC.due("status of no refusal " + i, answers[4 * i + 3], 0);
        }
        x.terms(0, 999);
        x.pass();
        after(x, "pass", -3);
        x.force(NONE);
        after(x, "force that answers -1 was not refused", 0);
        x.terms(0, 5);
        x.undo();
        after(x, "undo", -3);
    }

    private static void statusOfOthers() {
        DOC.says("`int status()`: What the latest call of name, terms");
        CommaWill x = will("0&1");
        x.image(0);
        x.mark(9, 1);
        x.feed(0, 0, 0, 0, 0);
        x.end(20);
        x.end(99);
        x.who(0);
        x.who(99);
        x.join(0, 0);
        x.of(0, 0);
        x.readings();
        x.depth(0, 0);
        x.gets(0, 0);
        x.gets(9, 9);
        x.lost(0);
        x.range(0, 0);
        x.unlike();
        x.settle(0, 0);
        x.fair(0);
        x.fits(NONE);
        x.ask(0);
        x.ruled(0);
        x.forget();
        x.few(1, 1);
        x.few(0, 1);
        x.compare(NONE, 0, 0);
        x.drawn(0);
        x.count(0);
        x.blots();
        x.fault();
        x.stopped();
        DOC.due("others leave it", x.status(), -2);
        DOC.due("none of them was refused", x.count(7) + x.count(9) + x.count(10) + x.count(11), 0);
    }
}
