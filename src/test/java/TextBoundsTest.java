/** Terms II at their bounds: what both languages of TEXTS have, and promise 13. */
public final class TextBoundsTest extends Wills {
    private static final Sentences DOC = new Sentences();

    private TextBoundsTest() {
    }

    public static void main(String[] args) {
        lettersAndDigits();
        singleBytes();
        blanks();
        twelveClauses();
        testsAndBoths();
        plains();
        sumsAndTerms();
        numbers();
        fiftyParts();
        eightBrackets();
        manyTexts();
        faultAtAToken();
        faultAtTheEnd();
        brokenBeyond();
        brokenByZero();
        cutTowardsZero();
        brokenTests();
        whatStandsBehind();
        fault();
        DOC.finish();
    }

    /** A place of NONE: the LAW can be read. */
    private static void lawFault(String text, int place) {
        CommaWill x = new CommaWill();
        DOC.due("law: " + text, law(x, text), place < 0 ? 0 : -6);
        DOC.due("fault of law: " + text, x.fault(), place);
        DOC.due("laws: " + text, x.count(4), place < 0 ? 1 : 0);
    }

    private static void ordersFault(String text, int place) {
        CommaWill x = will("0&1");
        int answer = orders(x, text);
        DOC.due("orders: " + text, answer == -6 ? 1 : 0, place < 0 ? 0 : 1);
        DOC.due("fault of orders: " + text, x.fault(), place);
    }

    /** What "shares" tells is seen in what person 0 of two gets of 100. */
    private static void tells(String sum, int due) {
        CommaWill x = will("0&1");
        x.terms(1, 100);
        DOC.due("law: shares " + sum, law(x, "shares " + sum), 0);
        x.force(0);
        DOC.due("shares " + sum, x.gets(0, 0), due);
    }

    /** A TEST in a law and the same one in orders; 50 is what is shared without it. */
    private static void asks(String test, boolean isSo) {
        tells("7 if " + test, isSo ? 7 : 50);
        CommaWill x = will("0&1");
        DOC.due("pass if " + test, orders(x, "pass if " + test), isSo ? 1 : 0);
    }

    private static void lettersAndDigits() {
        DOC.says("TOKENS: longest rows of letters a .. z, of digits");
        lawFault("bars", -1);
        lawFault("barsa", 0);
        lawFault("barsz", 0);
        lawFault("abars", 0);
        lawFault("zbars", 0);
        lawFault("bar", 0);
        lawFault("b ars", 0);
        lawFault("barsbars", 0);
        lawFault("barsif 1=1", 0);
        lawFault("bars if1=1", -1);
        lawFault("bars if 1=1or 1=2", -1);
        lawFault("shares1", -1);
        lawFault("shares10if 1=1", -1);
        lawFault("shares 1 0", 9);
        lawFault("shares 09", -1);
        lawFault("shares 90", -1);
        lawFault("shares year9", 11);
        lawFault("shares 9year", 8);
        ordersFault("passtimes 2", 0);
        ordersFault("pass times2", -1);
        ordersFault("die mark0", -1);
        ordersFault("mark0as1times1if1=1", -1);
    }

    private static void singleBytes() {
        DOC.says("single other bytes");
        for (char c : new char[] {'`', '{', '@', 'A', 'Z', '_', '.', ':', '/', 0, 10, 31, 33, 127,
            128, 160, 193, 255}) {
            lawFault("bars" + c, 4);
            lawFault(c + "bars", 0);
            lawFault("shares 1" + c, c == '/' ? 9 : 8);
            ordersFault("pass" + c, 4);
        }
        lawFault("Bars", 0);
        lawFault("bars;;bars", 5);
        lawFault("bars if 1<=2", 10);
        lawFault("bars if 1==2", 10);
        lawFault("shares [[1]]", -1);
        lawFault("shares 1 --1", 10);
    }

    private static void blanks() {
        DOC.says("any blanks (32) between");
        lawFault("   bars   ;   shares   1   +   [   2   ]   if   (   1   =   1   )   ", -1);
        lawFault("bars;shares 1+[2]if(1=1)", -1);
        lawFault("bars\tif 1=1", 4);
        lawFault("bars\nif 1=1", 4);
        lawFault("bars" + (char) 160 + "if 1=1", 4);
        lawFault("\tbars", 0);
        lawFault("  x", 2);
    }

    private static void twelveClauses() {
        DOC.says("CLAUSE {\";\" CLAUSE}, 12 at most (FAULT at the 13th's first TOKEN).");
        String laws = "bars" + ";bars".repeat(11);
        lawFault("bars", -1);
        lawFault(laws, -1);
        lawFault(laws + ";bars", 60);
        lawFault(laws + " ;  bars", 63);
        lawFault(laws + ";x", 60);
        lawFault(laws + ";;", 60);
        lawFault(laws + ";", 60);
        lawFault(laws + ";  ", 62);
        lawFault(laws + "bars", 55);
        lawFault(laws + " bars", 60);
        String orders = "pass" + ";pass".repeat(11);
        ordersFault(orders, -1);
        ordersFault(orders + ";pass", 60);
        ordersFault(orders + ";", 60);
        CommaWill x = lawful("0&1", "shares 1;".repeat(11) + "shares 12");
        DOC.due("the twelfth counts", x.gets(0, 0), 120);
        x = lawful("0&1", "shares 12;" + "bars if 1=2;".repeat(10) + "bars if 1=2");
        DOC.due("the first counts", x.gets(0, 0), 120);
        DOC.due("twelve orders run", orders(x, orders), 12);
        DOC.due("thirteen do not", orders(x, orders + ";pass"), -6);
        DOC.due("none of them ran", x.count(13), 12);
    }

    private static void testsAndBoths() {
        DOC.says("TEST: BOTH {\"or\" BOTH}. BOTH: PLAIN {\"and\" PLAIN}.");
        asks("1=1 or 1=1 and 1=2", true);
        asks("1=2 and 1=1 or 1=1", true);
        asks("1=2 or 1=2 or 1=1", true);
        asks("1=1 and 1=1 and 1=2", false);
        asks("(1=1 or 1=1) and 1=2", false);
        asks("1=2 and (1=1 or 1=1)", false);
        lawFault("bars if 1=1 or", 14);
        lawFault("bars if 1=1 and", 15);
        lawFault("bars if or 1=1", 8);
        lawFault("bars if and 1=1", 8);
        lawFault("bars if 1=1 or and 1=1", 15);
        lawFault("bars if 1=1 and or 1=1", 16);
        lawFault("bars if 1=1 1=1", 12);
        lawFault("bars if 1=1 xor 1=1", 12);
        lawFault("bars or 1=1", 5);
    }

    private static void plains() {
        DOC.says("PLAIN: \"not\" PLAIN | \"(\" TEST \")\" | SUM (\"<\" | \">\" | \"=\") SUM.");
        asks("1<2", true);
        asks("2<2", false);
        asks("3<2", false);
        asks("3>2", true);
        asks("2>2", false);
        asks("1>2", false);
        asks("2=2", true);
        asks("1=2", false);
        asks("not 1=2", true);
        asks("not 2<1", true);
        asks("not 1<2", false);
        asks("not 1>2", true);
        asks("not 2>1", false);
        asks("2<1 and 1=1", false);
        asks("1>2 and 1=1", false);
        asks("2<1 or 1=1", true);
        asks("1>2 or 1=1", true);
        asks("not (1>2 or 2<1)", true);
        asks("not not 1=2", false);
        asks("not 1=1 or 1=1", true);
        asks("not (1=1 or 1=1)", false);
        asks("not 1=2 and 1=2", false);
        asks("(1=1)", true);
        asks("((1=2))", false);
        asks("not ".repeat(90) + "1=1", true);
        asks("not ".repeat(91) + "1=1", false);
        lawFault("bars if 1", 9);
        lawFault("bars if 1<", 10);
        lawFault("bars if <1", 8);
        lawFault("bars if 1<2<3", 11);
        lawFault("bars if 1<2=1", 11);
        lawFault("bars if ()", 9);
        lawFault("bars if (1)", 10);
        lawFault("bars if (1)=1", 10);
        lawFault("bars if [1=1]", 10);
        lawFault("bars if (1=1", 12);
        lawFault("bars if (1=1]", 12);
        lawFault("bars if 1=1)", 11);
        lawFault("bars if (1=1))", 13);
        lawFault("bars if not", 11);
        lawFault("bars if 1=not 1", 10);
        lawFault("shares not 1", 7);
        lawFault("shares 1=1", 8);
    }

    private static void sumsAndTerms() {
        DOC.says("SUM: TERM {(\"+\" | \"-\") TERM}. TERM: PART {(\"*\" | \"/\" | \"%\") PART}.");
        tells("2+3*4", 14);
        tells("3*4+2", 14);
        tells("20-5-3", 12);
        tells("20-5+3", 18);
        tells("100/5/2", 10);
        tells("100/5*2", 40);
        tells("17%7*3", 9);
        tells("[2+3]*4", 20);
        tells("20-[5-3]", 18);
        lawFault("shares +1", 7);
        lawFault("shares -1", 7);
        lawFault("shares 1+", 9);
        lawFault("shares 1+*1", 9);
        lawFault("shares 1*-1", 9);
        lawFault("shares []", 8);
        lawFault("shares [1", 9);
        lawFault("shares [1)", 9);
        lawFault("shares 1]", 8);
        lawFault("shares (1)", 7);
        lawFault("shares", 6);
    }

    private static void numbers() {
        DOC.says("PART: NUMBER (to 1,000)");
        tells("0", 0);
        tells("1000/10", 100);
        tells("1000-999", 1);
        lawFault("shares 1000", -1);
        lawFault("shares 1001", 7);
        lawFault("shares 9999", 7);
        lawFault("shares 10000", 7);
        lawFault("shares 2147483648", 7);
        lawFault("shares 4294967296", 7);
        lawFault("shares 18446744073709551617", 7);
        lawFault("shares " + "9".repeat(393), 7);
        lawFault("shares " + "0".repeat(389) + "1000", -1);
        lawFault("shares " + "0".repeat(389) + "1001", 7);
        ordersFault("die 1000", -1);
        ordersFault("die 1001", 4);
        ordersFault("mark 0 as 1001", 10);
        lawFault("bars if 1 = 1001", 12);
    }

    private static void fiftyParts() {
        DOC.says("50 PARTS that are NUMBERS and words (FAULT at the 51st)");
        String fifty = "shares 1" + "+1".repeat(49);
        lawFault("shares 1" + "+1".repeat(48), -1);
        lawFault(fifty, -1);
        lawFault(fifty + "+1", 107);
        lawFault(fifty + "+ year", 108);
        lawFault(fifty + "+1001", 107);
        lawFault(fifty + "+x", 107);
        lawFault(fifty + "+[1]", 108);
        lawFault(fifty + ";bars", -1);
        lawFault(fifty + ";taxes 1", 113);
        lawFault(fifty + " if 1=1", 110);
        lawFault("shares year" + "+year".repeat(49), -1);
        lawFault("shares year" + "+year".repeat(50), 257);
        lawFault("shares [1]" + "+[1]".repeat(49), -1);
        lawFault("bars if 1=1" + " or 1=1".repeat(24), -1);
        lawFault("bars if 1=1" + " or 1=1".repeat(25), 183);
        tells("1" + "+1".repeat(49), 50);
        tells("2" + "+1".repeat(49), 51);
        ordersFault("die 1" + "+1".repeat(49), -1);
        ordersFault("die 1" + "+1".repeat(50), 104);
        ordersFault("mark 1 as 1" + "+1".repeat(48), -1);
        ordersFault("mark 1 as 1" + "+1".repeat(49), 108);
    }

    private static void eightBrackets() {
        DOC.says("8 brackets of both kinds within one another (FAULT at the 9th) at most");
        lawFault("shares " + "[".repeat(8) + "1" + "]".repeat(8), -1);
        lawFault("shares " + "[".repeat(9) + "1" + "]".repeat(9), 15);
        lawFault("bars if " + "(".repeat(8) + "1=1" + ")".repeat(8), -1);
        lawFault("bars if " + "(".repeat(9) + "1=1" + ")".repeat(9), 16);
        lawFault("bars if " + "(".repeat(7) + "[1]=1" + ")".repeat(7), -1);
        lawFault("bars if " + "(".repeat(8) + "[1]=1" + ")".repeat(8), 16);
        lawFault("bars if " + "(".repeat(7) + "[[1]]=1" + ")".repeat(7), 16);
        lawFault("bars if " + "(".repeat(7) + "1=[1]" + ")".repeat(7), -1);
        lawFault("bars if " + "(".repeat(8) + "1=[1]" + ")".repeat(8), 18);
        lawFault("shares [1]" + "+[1]".repeat(20), -1);
        lawFault("bars if (1=1)" + " or (1=1)".repeat(10), -1);
        lawFault("shares " + "[".repeat(8) + "1" + "]".repeat(8) + "+" + "[".repeat(8) + "1"
                + "]".repeat(8), -1);
        lawFault("shares " + "[".repeat(8) + "1" + "]".repeat(8) + ";taxes " + "[".repeat(9) + "1"
                + "]".repeat(9), 39);
        lawFault("bars if " + "not(".repeat(8) + "1=1" + ")".repeat(8), -1);
        lawFault("bars if " + "not(".repeat(9) + "1=1" + ")".repeat(9), 43);
        tells("[".repeat(8) + "9" + "]".repeat(8), 9);
        tells("1+[1+[1+[1+[1+[1+[1+[1+[1]]]]]]]]", 9);
        asks("((((((((9=9))))))))", true);
        ordersFault("die " + "[".repeat(8) + "1" + "]".repeat(8), -1);
        ordersFault("die " + "[".repeat(9) + "1" + "]".repeat(9), 12);
    }

    private static void manyTexts() {
        DOC.says("(FAULT at the 51st), 8 brackets of both kinds within one another (FAULT at the 9th) at most.");
        CommaWill x = will("0&1");
        String deep = "[".repeat(8) + "1" + "]".repeat(8);
        for (int i = 0; i < 4; i++) {
            DOC.due("eight open at its end", law(x, "shares " + "[".repeat(8)), -6);
            DOC.due("fault", x.fault(), 15);
            DOC.due("eight open at its end", orders(x, "pass if " + "(".repeat(8)), -6);
            DOC.due("fault", x.fault(), 16);
            DOC.due("eight again", orders(x, "pass times " + (i + 1) + " if " + deep + "=1"), i + 1);
        }
        x.image(0);
        String fifty = "1" + "+1".repeat(48);
        for (int i = 0; i < 16; i++) {
            DOC.due("fifty parts each", law(x, "shares " + fifty + "-" + i), 0);
            x.force(0);
            DOC.due("each as the first", x.gets(0, 0), 490 - 10 * i);
            x.back(0);
            DOC.due("and in orders", orders(x, "die " + fifty + "-49 if 1=2"), -6);
            DOC.due("51st", x.fault(), 108);
        }
    }

    private static void faultAtAToken() {
        DOC.says("FAULT: the first TOKEN that can't go on there");
        lawFault("x", 0);
        lawFault("   shares   join   join", 19);
        lawFault("bars ; taxes", 12);
        lawFault("bars ; x ; y", 7);
        lawFault("shares 1001 + x", 7);
        lawFault("shares done", 7);
        lawFault("shares latest", 7);
        lawFault("shares readings", 7);
        lawFault("shares living", 7);
        lawFault("shares mark 1", 7);
        lawFault("shares kind 1", 7);
        lawFault("pass", 0);
        lawFault("bars if 1=1 if 1=1", 12);
        lawFault("bars times 2", 5);
        lawFault("shares 1 times 2", 9);
        ordersFault("bars", 0);
        ordersFault("shares 1", 0);
        ordersFault("die join", 4);
        ordersFault("die left", 4);
        ordersFault("die right", 4);
        ordersFault("die worth", 4);
        ordersFault("die heir", 4);
        ordersFault("die times", 4);
        ordersFault("die mood", 4);
    }

    private static void faultAtTheEnd() {
        DOC.says("(the end's: the TEXT's length)");
        lawFault("", 0);
        lawFault(" ", 1);
        lawFault("bars;", 5);
        lawFault("bars;   ", 8);
        lawFault("shares", 6);
        lawFault("shares  ", 8);
        lawFault("shares 1 +  ", 12);
        lawFault("shares [", 8);
        lawFault("shares [1+", 10);
        lawFault("shares [[1]", 11);
        lawFault("bars if (", 9);
        lawFault("bars if (1=", 11);
        lawFault("bars if (1=1 or", 15);
        lawFault("bars if (1=1 and not", 20);
        lawFault("shares" + " ".repeat(394), 400);
        lawFault("shares 1" + "+".repeat(1) + " ".repeat(391), 400);
        lawFault("bars if (1" + " ".repeat(390), 400);
        lawFault("bars if (1 = 1  ", 16);
        ordersFault("", 0);
        ordersFault("   ", 3);
        ordersFault("mark 0 as ", 10);
        ordersFault("pass times ", 11);
        ordersFault("die mark ", 9);
        ordersFault("pass if  ", 9);
        CommaWill x = new CommaWill();
        x.feed(0x62617273, 0x3b626172, 0x73000000, 0, 0);
        x.end(5);
        DOC.due("the length is the TAPE's", x.law(), -6);
        DOC.due("what was cut counts not", x.fault(), 5);
        cutAt("shares 5", 7);
        cutAt("shares [5]", 7);
        cutAt("shares [5]", 9);
        cutAt("shares 1+year", 9);
        cutAt("bars if 1=1", 8);
        cutAt("bars if 1=1", 9);
        cutAt("bars if (1=1)", 8);
        cutAt("bars if (1=1)", 12);
        cutAt("bars if not 1=1", 12);
        cutAt("bars;bars", 5);
    }

    /** A law that could be, but for what end() takes from it. */
    private static void cutAt(String text, int place) {
        CommaWill x = new CommaWill();
        Check.put(x, text);
        x.end(place);
        DOC.due(text + " cut at " + place, x.law(), -6);
        DOC.due("fault of " + text + " cut at " + place, x.fault(), place);
    }

    private static void brokenBeyond() {
        DOC.says("Beyond 1,000,000,000 either way");
        tells("1000*1000*1000", 100);
        tells("1000*1000*1000+1", 50);
        tells("1000*1000*1000+1-1", 50);
        tells("1000*1000*1000-1", 100);
        tells("0-1000*1000*1000", 0);
        tells("0-1000*1000*1000-1", 50);
        tells("0-1000*1000*1000-1+1", 50);
        tells("0-1000*1000*1000+1", 0);
        tells("1000*1000*1000*1000/1000/1000/1000/1000", 50);
        tells("1000*1000*1000*[0-1]", 0);
        tells("1000*1000*1000*[0-2]", 50);
        tells("[1000*1000*1000]*[1000*1000*1000]", 50);
        tells("[0-1000*1000*1000]*[1000*1000*1000]", 50);
        tells("0*[1000*1000*1000+1]", 50);
        tells("0*[1000*1000*1000]+9", 9);
        asks("1000*1000*1000 > 999*1000*1000", true);
        asks("1000*1000*1000+1 > 0", false);
        asks("not 1000*1000*1000+1 > 0", false);
        asks("0 < 1000*1000*1000+1", false);
        asks("0-1000*1000*1000 < 0", true);
        asks("0-1000*1000*1000-1 < 0", false);
    }

    private static void brokenByZero() {
        DOC.says("or divided by 0");
        tells("1/0", 50);
        tells("0/0", 50);
        tells("1%0", 50);
        tells("0%0", 50);
        tells("5/[3-3]", 50);
        tells("0*[1/0]", 50);
        tells("0/1+9", 9);
        tells("0%1+9", 9);
        tells("9/1", 9);
        asks("1/0=1", false);
        asks("1=1/0", false);
        asks("not 1/0=1", false);
        asks("not 1%0=1", false);
    }

    private static void cutTowardsZero() {
        DOC.says("(/ cut towards 0, % what is left then)");
        tells("7/2", 3);
        tells("10+[0-7]/2", 7);
        tells("10+7/[0-2]", 7);
        tells("[0-7]/[0-2]", 3);
        tells("10+[0-1]/2", 10);
        tells("7%2", 1);
        tells("10+[0-7]%2", 9);
        tells("10+7%[0-2]", 11);
        tells("10+[0-7]%[0-2]", 9);
        tells("10+[0-6]%2", 10);
        tells("1000*1000*1000/[0-1]+1000*1000*1000", 0);
        tells("10+[0-1000*1000*1000]%[0-1]", 10);
    }

    private static void brokenTests() {
        DOC.says("a SUM, a TEST is BROKEN");
        asks("(1/0=1)", false);
        asks("not (1/0=1)", false);
        asks("not not 1/0=1", false);
        asks("1/0=1 or 1=1", false);
        asks("1/0=1 and 1=2 or 1=1", false);
        asks("not (1/0=1 and 1=2)", false);
        tells("5; shares 1/0", 5);
        tells("5; shares 6 if 1/0=1", 5);
        tells("5; shares 6 if not 1/0=1", 5);
        tells("5; shares 1/0 if 1=1", 5);
    }

    private static void whatStandsBehind() {
        DOC.says("(\"or\", \"and\" ask what stands behind only if it can still matter)");
        asks("1=1 or 1/0=1", true);
        asks("1=2 or 1/0=1", false);
        asks("not (1=2 or 1/0=1)", false);
        asks("1=2 or 1=1 or 1/0=1", true);
        asks("1=1 or 1/0=1 or 1/0=1", true);
        asks("1=2 and 1/0=1", false);
        asks("not (1=2 and 1/0=1)", true);
        asks("not (1=1 and 1/0=1)", false);
        asks("not (1=2 and 1/0=1 and 1/0=1)", true);
        asks("1=2 and 1/0=1 or 1=1", true);
        asks("1=1 and 1/0=1 or 1=1", false);
        asks("1=1 or 1=1 and 1/0=1", true);
        asks("1=1 and (1=1 or 1/0=1)", true);
        asks("1=2 and (1/0=1 or 1=1) or 1=1", true);
        asks("(1=1 or 1/0=1) and 1=1", true);
        asks("(1=1 or 1/0=1) and 1=2", false);
    }

    private static void fault() {
        DOC.says("FAULT of the latest law(), orders() that read a TEXT: its place; NONE without.");
        CommaWill x = new CommaWill();
        DOC.due("ahead of any", x.fault(), NONE);
        law(x, "bars x");
        DOC.due("of law", x.fault(), 5);
        row(x, 9);
        x.force(9);
        DOC.due("others leave it", x.fault(), 5);
        orders(x, "pass if 1=2");
        DOC.due("orders without", x.fault(), NONE);
        orders(x, "passx");
        DOC.due("of orders", x.fault(), 0);
        orders(x, "die 9");
        DOC.due("orders that can't be have none", x.fault(), NONE);
        orders(x, "x");
        law(x, "bars");
        DOC.due("law without", x.fault(), NONE);
        orders(x, "pass pass");
        for (int i = 1; i < 6; i++) {
            law(x, "bars");
        }
        orders(x, "pass pass");
        DOC.due("of the latest", x.fault(), 5);
        law(x, "x");
        DOC.due("a law without room was not read", x.fault(), 5);
        law(x, "bars");
        DOC.due("nor this one", x.fault(), 5);
    }
}
