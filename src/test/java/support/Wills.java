/** What tests share: wills from short sentences, texts and rows on the tape. */
class Wills {
    static final int AND = 0;
    static final int OR = 1;
    static final int BUT = 2;
    static final int NONE = -1;
    /** Numbers that are no JOIN, PERSON, READING .. of any will, on both sides. */
    static final int[] FAR = {Integer.MIN_VALUE, -1000, 1000, Integer.MAX_VALUE};

    /** A will of AND, OR, BUT between persons: "0&1|2!3"; a mark may stand behind a sign. */
    static CommaWill will(String sentence) {
        CommaWill x = new CommaWill();
        write(x, sentence);
        return x;
    }

    static void write(CommaWill x, String sentence) {
        int kind = 0;
        int mark = 0;
        boolean isPerson = true;
        for (int i = 0; i < sentence.length(); i++) {
            char c = sentence.charAt(i);
            int sign = "&|!".indexOf(c);
            if (sign >= 0) {
                kind = sign;
                mark = 0;
                isPerson = i + 2 >= sentence.length()
                        || "&|!".indexOf(sentence.charAt(i + 2)) >= 0;
            } else if (isPerson) {
                x.name(kind, mark, c - '0');
            } else {
                mark = c - '0';
                isPerson = true;
            }
        }
    }

    static int law(CommaWill x, String text) {
        Check.put(x, text);
        return x.law();
    }

    static int orders(CommaWill x, String text) {
        Check.put(x, text);
        return x.orders();
    }

    /** A will with a law in FORCE. */
    static CommaWill lawful(String sentence, String text) {
        CommaWill x = will(sentence);
        if (law(x, text) != 0 || x.force(0) != NONE) {
            throw new IllegalStateException("no law: " + text);
        }
        return x;
    }

    static void putBytes(CommaWill x, int... bytes) {
        StringBuilder text = new StringBuilder();
        for (int b : bytes) {
            text.append((char) b);
        }
        Check.put(x, text.toString());
    }

    static int row(CommaWill x, int... bytes) {
        putBytes(x, bytes);
        return x.row();
    }
}
