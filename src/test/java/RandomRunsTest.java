import java.util.ArrayDeque;
import java.util.Random;

/** Runs of calls at random: the class answers as the oracle does, which was written apart from it. */
public final class RandomRunsTest {
    private static final int RUNS = 4000;
    private static final int CALLS = 120;

    private final Random random;
    private final TextMaker texts;
    private final CommaWill x = new CommaWill();
    private final Oracle y = new Oracle();
    private final ArrayDeque<String> calls = new ArrayDeque<>();
    private int wrong = 0;

    private RandomRunsTest(long seed) {
        random = new Random(seed);
        texts = new TextMaker(random);
    }

    public static void main(String[] args) {
        int failed = 0;
        int runs = args.length > 0 ? Integer.parseInt(args[0]) : RUNS;
        long from = args.length > 1 ? Long.parseLong(args[1]) : 0;
        for (int run = 0; run < runs && failed < 5; run++) {
            RandomRunsTest test = new RandomRunsTest(from + run);
            test.play(run);
            if (test.wrong > 0) {
                failed++;
                System.out.println("seed " + (from + run) + ":");
                test.calls.forEach(System.out::println);
            }
        }
        System.out.println(runs + " runs, " + failed + " not as due");
        if (failed > 0) {
            System.exit(1);
        }
    }

    private void play(int run) {
        int names = run % 9;
        if (random.nextInt(4) == 0) {
            same("image", random.nextInt(2));
        }
        for (int i = 0; i < names; i++) {
            same("name", i == 0 ? 0 : random.nextInt(3), i == 0 ? 0 : random.nextInt(5) / 3,
                    random.nextInt(6));
        }
        for (int i = 0; i < CALLS && wrong == 0; i++) {
            step();
        }
    }

    /** A number that most times can be, 0 .. bound - 1. */
    private int some(int bound) {
        int odds = random.nextInt(40);
        if (odds == 0) {
            return bound;
        }
        if (odds == 1) {
            return -1;
        }
        if (odds == 2) {
            return new int[] {Integer.MIN_VALUE, Integer.MAX_VALUE, -2, bound + 1}[random.nextInt(4)];
        }
        return random.nextInt(bound);
    }

    private int reading() {
        int count = y.readings();
        return count == 0 || random.nextInt(30) == 0 ? some(132) : some(count);
    }

    private void put(String text) {
        for (int at = 0; at < text.length(); at += 20) {
            same("feed", Check.four(text, at), Check.four(text, at + 4), Check.four(text, at + 8),
                    Check.four(text, at + 12), Check.four(text, at + 16));
        }
        same("end", Math.min(text.length(), y.count(6)));
        calls.add("  \"" + text + "\"");
    }

    private void step() {
        switch (random.nextInt(12)) {
            case 0:
                change();
                break;
            case 1:
            case 2:
                deed();
                break;
            case 3:
                text();
                break;
            case 4:
                same("count", some(17));
                same("status");
                break;
            default:
                question();
                break;
        }
    }

    private void change() {
        switch (random.nextInt(10)) {
            case 0:
                same("name", some(3), some(4), some(6));
                break;
            case 1:
                same("terms", random.nextInt(4), some(new int[] {4, 11, 1000, 10000}[random.nextInt(4)]));
                break;
            case 2:
                rowOfBytes();
                break;
            case 3:
                same("image", some(2));
                break;
            case 4:
                same("back", some(2));
                if (random.nextInt(3) == 0) {
                    same("forget");
                    same("name", some(3), some(4), some(6));
                    same("told", some(6), 500);
                    same("judge", reading());
                }
                break;
            case 5:
                same("force", some(Math.max(1, y.count(4))));
                break;
            case 6:
                same("judge", reading());
                break;
            case 7:
                int person = some(6);
                int r = reading();
                int much = y.gets(r, person);
                same("told", person, much >= 0 && random.nextInt(6) > 0 ? much : some(10000));
                break;
            case 8:
                if (random.nextInt(3) == 0) {
                    same("forget");
                }
                break;
            default:
                same("years", some(1000001), some(61));
                break;
        }
    }

    private void rowOfBytes() {
        StringBuilder bytes = new StringBuilder();
        int many = random.nextInt(8);
        for (int i = 0; i < many; i++) {
            bytes.append((char) random.nextInt(4)).append((char) random.nextInt(5));
            bytes.append((char) (random.nextInt(12) == 0 ? 255 : random.nextInt(7)));
        }
        if (random.nextInt(3) == 0) {
            bytes.append((char) 0).append("\0".repeat(random.nextInt(2)));
        }
        put(bytes.toString());
        same("row");
        same("blots");
    }

    private void deed() {
        switch (random.nextInt(6)) {
            case 0:
            case 1:
                same("mark", some(6), some(4));
                break;
            case 2:
                same("turn", some(6), some(3));
                break;
            case 3:
                same("die", some(6));
                break;
            case 4:
                same("pass");
                break;
            default:
                same("undo");
                break;
        }
    }

    private void text() {
        if (random.nextInt(3) == 0) {
            put(texts.law());
            same("law");
            same("fault");
            same("force", some(Math.max(1, y.count(4))));
        } else {
            put(texts.orders());
            same("orders");
            same("fault");
            same("stopped");
            same("count", 5);
        }
    }

    private void question() {
        switch (random.nextInt(18)) {
            case 0:
                same("who", some(7));
                break;
            case 1:
                same("join", some(6), some(2));
                break;
            case 2:
                same("of", some(6), some(3));
                break;
            case 3:
                same("readings");
                break;
            case 4:
                same("depth", reading(), some(6));
                break;
            case 5:
            case 6:
                same("gets", reading(), some(6));
                break;
            case 7:
                same("lost", reading());
                break;
            case 8:
                same("range", some(6), some(3));
                break;
            case 9:
                same("unlike");
                break;
            case 10:
                int r = reading();
                if (y.count(0) < 7 || random.nextInt(6) == 0) {
                    same("settle", r, 0);
                    same("settle", r, some(7));
                }
                break;
            case 11:
                same("fair", some(2));
                break;
            case 12:
                same("fits", random.nextInt(3) == 0 ? -1 : some(20));
                break;
            case 13:
                same("ask", some(2));
                break;
            case 14:
                same("ruled", some(6));
                break;
            case 15:
                same("few", some(21), some(100));
                break;
            case 16:
                same("compare", some(Math.max(1, y.count(4))), reading(), some(6));
                break;
            default:
                same("drawn", some(6));
                break;
        }
    }

    private void same(String call, int... a) {
        long got = Calls.of(x, call, a);
        long want = Calls.of(y, call, a);
        calls.add(call + java.util.Arrays.toString(a) + " " + got);
        if (got != want) {
            wrong++;
            calls.add("  due is " + want);
        }
    }
}
