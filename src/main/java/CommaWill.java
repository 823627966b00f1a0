/**
 * A will in one sentence that can be read in many ways: its names, joins and marks, the laws by
 * which it is shared, the orders that change it, and all that can be told of its readings.
 */
public final class CommaWill {
    public static final int NONE = -1;

    private static final int BAD_NUMBER = -1;
    private static final int NO_SUCH = -2;
    private static final int CANNOT = -3;
    private static final int NO_ROOM = -5;
    private static final int BAD_TEXT = -6;

    private static final int MOST_NAMES = 7;
    private static final int MOST_JOINS = 6;
    private static final int PERSONS = 6;
    private static final int EVERYBODY = 63;
    private static final int MOST_JUDGES = 5;
    private static final int MOST_TOLD = 6;
    private static final int MOST_LAWS = 6;
    private static final int MOST_TREES = 132;
    private static final int MOST_MARK = 3;
    private static final int MOST_KIND = 2;
    private static final int MOST_AMOUNT = 9999;
    private static final int IMAGES = 2;

    private static final int AND = 0;
    private static final int BUT = 2;

    private static final int YEAR = 0;
    private static final int WORTH = 1;
    private static final int MOOD = 2;
    private static final int SLIPS = 3;
    private static final int TERMS = 4;
    private static final int[] TERM_MOST = {999, 9999, 9, 10};

    /** How many trees there are of 0 .. 6 JOINS. */
    private static final int[] TREES = {1, 1, 2, 5, 14, 42, 132};
    /** A set of 132 trees is kept in so many longs. */
    private static final int SET = 3;

    private static final int MOST_BYTES = 400;
    private static final int MOST_CLAUSES = 12;
    private static final int MOST_PARTS = 50;
    private static final int MOST_OPEN = 8;
    private static final int MOST_NUMBER = 1000;
    private static final int MOST_REPEATS = 20;

    private static final String LAW_HEADS = "shares taxes bars";
    private static final int SHARES = 0;
    private static final int TAXES = 1;
    private static final int BARS = 2;
    private static final String LAW_WORDS = "join left right worth heir times year mood";
    private static final int LAW_JOIN = 0;
    private static final int LAW_LEFT = 1;
    private static final int LAW_RIGHT = 2;
    private static final int LAW_WORTH = 3;
    private static final int LAW_HEIR = 4;
    private static final int LAW_TIMES = 5;
    private static final int LAW_YEAR = 6;
    private static final int LAW_MOOD = 7;

    private static final String ORDER_HEADS = "mark turn die pass";
    /** By these numbers undo() names them, too. */
    private static final int TO_MARK = 0;
    private static final int TO_TURN = 1;
    private static final int TO_DIE = 2;
    private static final int TO_PASS = 3;
    private static final String ORDER_WORDS = "year done latest readings living mark kind";
    private static final int ORDER_YEAR = 0;
    private static final int ORDER_DONE = 1;
    private static final int ORDER_LATEST = 2;
    private static final int ORDER_READINGS = 3;
    private static final int ORDER_LIVING = 4;
    private static final int ORDER_MARK = 5;
    /** "mark" 0 .. 5 stand as words 5 .. 10, so "kind" 0 .. 5 come behind them. */
    private static final int ORDER_KIND = ORDER_MARK + MOST_JOINS;
    private static final int MOST_WORDS = ORDER_KIND + MOST_JOINS;

    private static final int OP_END = 0;
    private static final int OP_NUMBER = 1;
    private static final int OP_WORD = 2;
    private static final int OP_NOT = 3;
    private static final int OP_AND = 4;
    private static final int OP_OR = 5;
    private static final int OP_ADD = 6;
    private static final int OP_LESSEN = 7;
    private static final int OP_TIMES = 8;
    private static final int OP_DIVIDE = 9;
    private static final int OP_REST = 10;
    private static final int OP_BELOW = 11;
    private static final int OP_ABOVE = 12;
    private static final int OP_EQUAL = 13;
    private static final int OP_BITS = 4;
    private static final int OP_MASK = 15;

    /** No SUM can be this number: none goes beyond 1,000,000,000. */
    private static final int BROKEN = -2000000000;
    private static final long MOST_SUM = 1000000000L;

    private static final long WHOLE_CHANCE = 1000000000000L;
    private static final int MOST_FEW = 20;
    private static final int MOST_SLIPPING = 99;

    private final Will will = new Will();
    private final Will before = new Will();
    /** null, where none was kept. */
    private final Will[] images = new Will[IMAGES];
    private final Log log = new Log();
    private final Log logBefore = new Log();
    private final Reader reader = new Reader();
    private final Sums orderSums = new Sums();
    private final Forest forest = new Forest();
    private final Ledger ledger = new Ledger();
    private final Paper paper = new Paper();
    private final Settler settler = new Settler();
    private final int[] fitting = new int[MOST_TREES];
    private final long[] chances = new long[MOST_FEW];
    private final int[] refusals = new int[5];
    private int blotted = 0;
    private int stoppedAt = NONE;
    private int latestStatus = 0;
    private int drawnLiving = NONE;
    /** The MARKS, the NAMES are others than those by which the forest was sifted. */
    private boolean remarked = true;
    /** Something is another one than what the ledger was opened for. */
    private boolean stale = true;

    public CommaWill() {
    }

    public int name(int kind, int mark, int person) {
        if (!will.canJoin(kind, mark, person)) {
            return refuse(BAD_NUMBER);
        }
        if (will.names >= MOST_NAMES) {
            return refuse(NO_ROOM);
        }
        will.append(kind, mark, person);
        log.size = 0;
        rewritten();
        return accept(will.names - 1);
    }

    public int who(int name) {
        return isBelow(name, will.names) ? will.owner[name] : NONE;
    }

    public int join(int join, int what) {
        if (!will.hasJoin(join)) {
            return NONE;
        }
        if (what == 0) {
            return will.kinds[join];
        }
        return what == 1 ? will.marks[join] : NONE;
    }

    public int of(int person, int what) {
        if (!isBelow(person, PERSONS)) {
            return NONE;
        }
        switch (what) {
            case 0:
                return bit(will.living, person);
            case 1:
                return will.timesOf(person);
            case 2:
                freshen();
                return bit(ledger.paper.barred, person);
            default:
                return NONE;
        }
    }

    public int terms(int what, int value) {
        if (!isBelow(what, TERMS) || value < 0 || value > TERM_MOST[what]) {
            return refuse(BAD_NUMBER);
        }
        int was = will.terms[what];
        will.terms[what] = value;
        log.size = 0;
        outdate();
        return accept(was);
    }

    public int feed(int a, int b, int c, int d, int e) {
        if (reader.length + 20 > MOST_BYTES) {
            return NONE;
        }
        reader.append(a);
        reader.append(b);
        reader.append(c);
        reader.append(d);
        reader.append(e);
        return reader.length;
    }

    public int end(int n) {
        if (n < 0 || n > reader.length) {
            return NONE;
        }
        reader.length = n;
        return n;
    }

    public int row() {
        int length = reader.length;
        if (length == 0) {
            return refuse(BAD_TEXT);
        }
        int came = 0;
        int lost = 0;
        for (int at = 0; at < length; at += 3) {
            if (takeFromTape(at)) {
                came++;
            } else {
                lost++;
            }
        }
        reader.length = 0;
        blotted = lost;
        log.size = 0;
        rewritten();
        return accept(came);
    }

    public int blots() {
        return blotted;
    }

    public int law() {
        if (will.laws >= MOST_LAWS) {
            reader.length = 0;
            return refuse(NO_ROOM);
        }
        if (!reader.parse(true)) {
            return refuse(BAD_TEXT);
        }
        will.lawAt[will.laws] = new Text(reader.text);
        will.laws++;
        return accept(will.laws - 1);
    }

    public int orders() {
        stoppedAt = NONE;
        if (!reader.parse(false)) {
            return refuse(BAD_TEXT);
        }
        before.copyFrom(will);
        logBefore.copyFrom(log);
        int ran = runOrders(reader.text);
        if (ran == NONE) {
            will.copyFrom(before);
            log.copyFrom(logBefore);
            rewritten();
            return refuse(CANNOT);
        }
        return accept(ran);
    }

    public int fault() {
        return reader.faultAt;
    }

    public int stopped() {
        return stoppedAt;
    }

    public int force(int law) {
        if (law != NONE && !isBelow(law, will.laws)) {
            return refuse(NO_SUCH);
        }
        int was = will.inForce;
        will.inForce = law;
        outdate();
        return accept(was);
    }

    public int mark(int join, int mark) {
        int answer = doMark(join, mark);
        return answer < 0 ? refuse(answer) : accept(answer);
    }

    public int turn(int join, int kind) {
        int answer = doTurn(join, kind);
        return answer < 0 ? refuse(answer) : accept(answer);
    }

    public int die(int person) {
        int answer = doDie(person);
        return answer < 0 ? refuse(answer) : accept(answer);
    }

    public int pass() {
        int answer = doPass();
        return answer < 0 ? refuse(answer) : accept(answer);
    }

    public int undo() {
        if (log.size <= 0) {
            return refuse(CANNOT);
        }
        log.size--;
        int at = log.size;
        int where = log.where[at];
        switch (log.what[at]) {
            case TO_MARK:
                will.marks[where] = log.was[at];
                break;
            case TO_TURN:
                will.kinds[where] = log.was[at];
                break;
            case TO_DIE:
                will.living |= 1 << where;
                break;
            default:
                will.terms[YEAR] = log.was[at];
                break;
        }
        rewritten();
        return accept(log.what[at]);
    }

    public int readings() {
        return sift();
    }

    public int depth(int reading, int join) {
        if (!isBelow(reading, sift()) || !will.hasJoin(join)) {
            return NONE;
        }
        return forest.deep[forest.list[reading] * MOST_JOINS + join];
    }

    public int gets(int reading, int person) {
        if (!isBelow(reading, freshen()) || !isBelow(person, PERSONS)) {
            return NONE;
        }
        ledger.know(forest.list[reading]);
        return amount(reading, person);
    }

    public int lost(int reading) {
        if (!isBelow(reading, freshen())) {
            return NONE;
        }
        ledger.know(forest.list[reading]);
        int rest = will.terms[WORTH];
        for (int p = 0; p < PERSONS; p++) {
            rest -= amount(reading, p);
        }
        return rest;
    }

    public int range(int person, int what) {
        if (!isBelow(person, PERSONS) || !isBelow(what, 3)) {
            return NONE;
        }
        int count = learnReadings();
        if (count == 0) {
            return NONE;
        }
        int least = amount(0, person);
        int most = least;
        int where = 0;
        for (int r = 1; r < count; r++) {
            int much = amount(r, person);
            least = Math.min(least, much);
            if (much > most) {
                most = much;
                where = r;
            }
        }
        if (what == 0) {
            return least;
        }
        return what == 1 ? most : where;
    }

    public int unlike() {
        int count = learnReadings();
        int unlike = 0;
        for (int r = 0; r < count; r++) {
            boolean isNew = true;
            for (int q = 0; q < r && isNew; q++) {
                isNew = !ledger.areAlike(forest.list[q], forest.list[r]);
            }
            if (isNew) {
                unlike++;
            }
        }
        return unlike;
    }

    public int settle(int reading, int what) {
        if (!isBelow(reading, freshen()) || !isBelow(what, will.names)) {
            return NONE;
        }
        int tree = forest.list[reading];
        if (settler.tree != tree) {
            for (int t = 0; t < forest.trees; t++) {
                ledger.know(t);
            }
            settler.search(tree, forest, ledger, will.marks);
        }
        if (settler.more == NONE || what == 0) {
            return settler.more;
        }
        return settler.trial[what - 1];
    }

    public int fair(int what) {
        if (!isBelow(what, 2)) {
            return NONE;
        }
        int count = learnReadings();
        int entitled = ledger.paper.fit & will.namedMask(0, will.names - 1);
        if (count == 0 || entitled == 0) {
            return NONE;
        }
        int best = NONE;
        int where = NONE;
        for (int r = 0; r < count; r++) {
            int least = leastOf(r, entitled);
            if (least > best) {
                best = least;
                where = r;
            }
        }
        return what == 0 ? where : best;
    }

    public int told(int person, int much) {
        if (!isBelow(person, PERSONS) || much < 0 || much > MOST_AMOUNT) {
            return refuse(BAD_NUMBER);
        }
        if (will.tolds >= MOST_TOLD) {
            return refuse(NO_ROOM);
        }
        will.toldOf[will.tolds] = person;
        will.toldMuch[will.tolds] = much;
        will.tolds++;
        return accept(will.tolds);
    }

    public int fits(int i) {
        int count = learnReadings();
        int fit = gatherFitting(count);
        if (i == NONE) {
            return fit;
        }
        return isBelow(i, fit) ? fitting[i] : NONE;
    }

    public int ask(int what) {
        if (!isBelow(what, 2)) {
            return NONE;
        }
        int count = learnReadings();
        int fit = gatherFitting(count);
        if (fit == 0) {
            return NONE;
        }
        int whom = NONE;
        int left = fit + 1;
        for (int p = 0; p < PERSONS; p++) {
            int most = mostAlike(fit, p);
            if (most < left) {
                left = most;
                whom = p;
            }
        }
        return what == 0 ? whom : left;
    }

    public int judge(int reading) {
        if (!isBelow(reading, MOST_TREES)) {
            return refuse(BAD_NUMBER);
        }
        if (will.judges >= MOST_JUDGES) {
            return refuse(NO_ROOM);
        }
        will.held[will.judges] = reading;
        will.judges++;
        return accept(will.judges);
    }

    public int ruled(int person) {
        if (!isBelow(person, PERSONS)) {
            return NONE;
        }
        int count = freshen();
        for (int i = 0; i < will.judges; i++) {
            if (will.held[i] < count) {
                ledger.know(forest.list[will.held[i]]);
            }
        }
        for (int i = 0; i < will.judges; i++) {
            if (will.held[i] < count) {
                int much = amount(will.held[i], person);
                if (2 * judgesFor(person, much, count) > will.judges) {
                    return much;
                }
            }
        }
        return NONE;
    }

    public int forget() {
        int were = will.tolds + will.judges;
        will.tolds = 0;
        will.judges = 0;
        return were;
    }

    public long few(int k, int n) {
        if (k < 1 || k > MOST_FEW || n < 0 || n > MOST_SLIPPING) {
            return NONE;
        }
        int slips = will.terms[SLIPS];
        chances[0] = WHOLE_CHANCE;
        for (int i = 1; i < k; i++) {
            chances[i] = 0;
        }
        for (int m = 0; m < n; m++) {
            for (int i = k - 1; i >= 0; i--) {
                long slipped = i > 0 ? chances[i - 1] * slips / 10 : 0;
                chances[i] = chances[i] * (10 - slips) / 10 + slipped;
            }
        }
        long sum = 0;
        for (int i = 0; i < k; i++) {
            sum += chances[i];
        }
        return sum;
    }

    public int compare(int law, int reading, int person) {
        if (law != NONE && !isBelow(law, will.laws)) {
            return NONE;
        }
        if (!isBelow(reading, sift()) || !isBelow(person, PERSONS)) {
            return NONE;
        }
        paper.take(will, forest, will.lawOf(law), will.terms[YEAR], will.living);
        paper.divide(forest.list[reading]);
        return paper.would[person];
    }

    public int years(int seed, int n) {
        if (seed < 0 || seed > 1000000 || n < 1 || n > 60) {
            return refuse(BAD_NUMBER);
        }
        int s = seed;
        int living = will.living;
        int year = will.terms[YEAR];
        int calm = 0;
        for (int i = 0; i < n && year < TERM_MOST[YEAR]; i++) {
            s = draw(s);
            int person = s % PERSONS;
            s = draw(s);
            int fate = s % 3;
            if (fate == 0) {
                living &= ~(1 << person);
            } else if (fate == 1) {
                living |= 1 << person;
            }
            year++;
            if (allGiveAlike(year, living)) {
                calm++;
            }
        }
        drawnLiving = living;
        return accept(calm);
    }

    public int drawn(int person) {
        if (drawnLiving == NONE || !isBelow(person, PERSONS)) {
            return NONE;
        }
        return bit(drawnLiving, person);
    }

    public int image(int k) {
        if (!isBelow(k, IMAGES)) {
            return refuse(BAD_NUMBER);
        }
        if (images[k] == null) {
            images[k] = new Will();
        }
        images[k].copyFrom(will);
        return accept(0);
    }

    public int back(int k) {
        if (!isBelow(k, IMAGES)) {
            return refuse(BAD_NUMBER);
        }
        if (images[k] == null) {
            return refuse(NO_SUCH);
        }
        will.copyFrom(images[k]);
        log.size = 0;
        rewritten();
        return accept(0);
    }

    public int count(int what) {
        switch (what) {
            case 0:
                return will.names;
            case 1:
                return Integer.bitCount(will.living);
            case 2:
                return will.tolds;
            case 3:
                return will.judges;
            case 4:
                return will.laws;
            case 5:
                return log.size;
            case 6:
                return reader.length;
            case 12:
                return will.inForce;
            default:
                break;
        }
        if (what >= 7 && what <= 11) {
            return refusals[what - 7];
        }
        return what >= 13 && what <= 16 ? will.terms[what - 13] : NONE;
    }

    public int status() {
        return latestStatus;
    }

    private static boolean isBelow(int number, int bound) {
        return number >= 0 && number < bound;
    }

    private static int bit(int mask, int person) {
        return mask >> person & 1;
    }

    private static int draw(int s) {
        return (int) ((s * 1103L + 12345L) % 1000003L);
    }

    private int accept(int answer) {
        latestStatus = 0;
        return answer;
    }

    private int refuse(int code) {
        latestStatus = code;
        switch (code) {
            case BAD_NUMBER:
                refusals[0]++;
                break;
            case NO_SUCH:
                refusals[1]++;
                break;
            case CANNOT:
                refusals[2]++;
                break;
            case NO_ROOM:
                refusals[3]++;
                break;
            default:
                refusals[4]++;
                break;
        }
        return code;
    }

    /** What READINGS give may be another thing now. */
    private void outdate() {
        stale = true;
        settler.tree = NONE;
    }

    /** Which READINGS there are, too, may be another thing now. */
    private void rewritten() {
        remarked = true;
        outdate();
    }

    /** The forest stands as NAMES and MARKS do: how many READINGS there are. */
    private int sift() {
        if (remarked) {
            forest.grow(will.names - 1);
            forest.sift(will.marks);
            remarked = false;
        }
        return forest.count;
    }

    /** The forest, the ledger stand as all does: how many READINGS there are. */
    private int freshen() {
        int count = sift();
        if (stale) {
            ledger.open(will, forest);
            stale = false;
        }
        return count;
    }

    private int learnReadings() {
        int count = freshen();
        for (int r = 0; r < count; r++) {
            ledger.know(forest.list[r]);
        }
        return count;
    }

    /** What a PERSON GETS in a READING that the ledger knows. */
    private int amount(int reading, int person) {
        return ledger.got[forest.list[reading] * PERSONS + person];
    }

    private int leastOf(int reading, int mask) {
        int least = MOST_AMOUNT;
        for (int p = 0; p < PERSONS; p++) {
            if (bit(mask, p) == 1) {
                least = Math.min(least, amount(reading, p));
            }
        }
        return least;
    }

    private int gatherFitting(int count) {
        int fit = 0;
        for (int r = 0; r < count; r++) {
            boolean isSo = true;
            for (int i = 0; i < will.tolds && isSo; i++) {
                isSo = amount(r, will.toldOf[i]) == will.toldMuch[i];
            }
            if (isSo) {
                fitting[fit] = r;
                fit++;
            }
        }
        return fit;
    }

    /** Of the first FITTING ones, the most that give a PERSON alike. */
    private int mostAlike(int fit, int person) {
        int most = 0;
        for (int i = 0; i < fit; i++) {
            int much = amount(fitting[i], person);
            int alike = 0;
            for (int j = i; j < fit; j++) {
                if (amount(fitting[j], person) == much) {
                    alike++;
                }
            }
            most = Math.max(most, alike);
        }
        return most;
    }

    private int judgesFor(int person, int much, int count) {
        int agree = 0;
        for (int i = 0; i < will.judges; i++) {
            if (will.held[i] < count && amount(will.held[i], person) == much) {
                agree++;
            }
        }
        return agree;
    }

    /** Whether UNLIKE is 1 at most with another YEAR and others LIVING. */
    private boolean allGiveAlike(int year, int living) {
        int count = sift();
        if (count <= 1) {
            return true;
        }
        paper.take(will, forest, will.lawOf(will.inForce), year, living);
        for (int r = 0; r < count; r++) {
            paper.divide(forest.list[r]);
            for (int p = 0; p < PERSONS; p++) {
                if (r == 0) {
                    paper.first[p] = paper.would[p];
                } else if (paper.first[p] != paper.would[p]) {
                    return false;
                }
            }
        }
        return true;
    }

    private boolean takeFromTape(int at) {
        if (at + 3 > reader.length || will.names >= MOST_NAMES) {
            return false;
        }
        int kind = reader.bytes[at];
        int mark = reader.bytes[at + 1];
        int person = reader.bytes[at + 2];
        if (!will.canJoin(kind, mark, person)) {
            return false;
        }
        will.append(kind, mark, person);
        return true;
    }

    private int doMark(int join, int mark) {
        if (mark < 0 || mark > MOST_MARK) {
            return BAD_NUMBER;
        }
        if (!will.hasJoin(join)) {
            return NO_SUCH;
        }
        if (will.marks[join] == mark) {
            return CANNOT;
        }
        log.note(TO_MARK, join, will.marks[join]);
        will.marks[join] = mark;
        // No LAW asks for a MARK, so what each tree gives stays as it was.
        remarked = true;
        settler.tree = NONE;
        return sift();
    }

    private int doTurn(int join, int kind) {
        if (kind < 0 || kind > MOST_KIND) {
            return BAD_NUMBER;
        }
        if (!will.hasJoin(join)) {
            return NO_SUCH;
        }
        int was = will.kinds[join];
        if (was == kind) {
            return CANNOT;
        }
        log.note(TO_TURN, join, was);
        will.kinds[join] = kind;
        outdate();
        return was;
    }

    private int doDie(int person) {
        if (!isBelow(person, PERSONS)) {
            return BAD_NUMBER;
        }
        if (bit(will.living, person) == 0) {
            return CANNOT;
        }
        log.note(TO_DIE, person, 1);
        will.living &= ~(1 << person);
        outdate();
        return Integer.bitCount(will.living);
    }

    private int doPass() {
        int year = will.terms[YEAR];
        if (year >= TERM_MOST[YEAR]) {
            return CANNOT;
        }
        log.note(TO_PASS, 0, year);
        will.terms[YEAR] = year + 1;
        outdate();
        return year + 1;
    }

    /** How many were run; NONE, if one can't be. */
    private int runOrders(Text text) {
        orderSums.words[ORDER_DONE] = 0;
        orderSums.words[ORDER_LATEST] = NONE;
        for (int c = 0; c < text.clauses; c++) {
            for (int i = 0; i < text.repeats[c]; i++) {
                lookAround();
                if (text.test[c] != NONE && orderSums.evaluate(text, text.test[c]) != 1) {
                    continue;
                }
                if (!runClause(text, c)) {
                    stoppedAt = c;
                    return NONE;
                }
                orderSums.words[ORDER_DONE]++;
            }
        }
        return orderSums.words[ORDER_DONE];
    }

    private boolean runClause(Text text, int c) {
        int a = text.first[c] == NONE ? 0 : orderSums.evaluate(text, text.first[c]);
        int b = text.second[c] == NONE ? 0 : orderSums.evaluate(text, text.second[c]);
        if (a == BROKEN || b == BROKEN) {
            return false;
        }
        switch (text.head[c]) {
            case TO_MARK:
                int told = doMark(a, b);
                orderSums.words[ORDER_LATEST] = told;
                return told >= 0;
            case TO_TURN:
                return doTurn(a, b) >= 0;
            case TO_DIE:
                return doDie(a) >= 0;
            default:
                return doPass() >= 0;
        }
    }

    /** The words of ORDERS tell what stands just now. */
    private void lookAround() {
        int[] words = orderSums.words;
        words[ORDER_YEAR] = will.terms[YEAR];
        words[ORDER_READINGS] = sift();
        words[ORDER_LIVING] = Integer.bitCount(will.living);
        for (int j = 0; j < MOST_JOINS; j++) {
            boolean isThere = will.hasJoin(j);
            words[ORDER_MARK + j] = isThere ? will.marks[j] : NONE;
            words[ORDER_KIND + j] = isThere ? will.kinds[j] : NONE;
        }
    }

    /** All that an IMAGE keeps. */
    private static final class Will {
        int names = 0;
        final int[] owner = new int[MOST_NAMES];
        final int[] kinds = new int[MOST_JOINS];
        final int[] marks = new int[MOST_JOINS];
        int living = EVERYBODY;
        final int[] terms = new int[TERMS];
        int judges = 0;
        final int[] held = new int[MOST_JUDGES];
        int tolds = 0;
        final int[] toldOf = new int[MOST_TOLD];
        final int[] toldMuch = new int[MOST_TOLD];
        int laws = 0;
        final Text[] lawAt = new Text[MOST_LAWS];
        int inForce = NONE;

        Will() {
            terms[WORTH] = 1000;
            terms[SLIPS] = 1;
        }

        void copyFrom(Will other) {
            names = other.names;
            System.arraycopy(other.owner, 0, owner, 0, MOST_NAMES);
            System.arraycopy(other.kinds, 0, kinds, 0, MOST_JOINS);
            System.arraycopy(other.marks, 0, marks, 0, MOST_JOINS);
            living = other.living;
            System.arraycopy(other.terms, 0, terms, 0, TERMS);
            judges = other.judges;
            System.arraycopy(other.held, 0, held, 0, MOST_JUDGES);
            tolds = other.tolds;
            System.arraycopy(other.toldOf, 0, toldOf, 0, MOST_TOLD);
            System.arraycopy(other.toldMuch, 0, toldMuch, 0, MOST_TOLD);
            laws = other.laws;
            for (int i = 0; i < MOST_LAWS; i++) {
                lawAt[i] = other.lawAt[i];
            }
            inForce = other.inForce;
        }

        boolean canJoin(int kind, int mark, int person) {
            int mostKind = names == 0 ? 0 : MOST_KIND;
            int mostMark = names == 0 ? 0 : MOST_MARK;
            return kind >= 0 && kind <= mostKind && mark >= 0 && mark <= mostMark
                    && isBelow(person, PERSONS);
        }

        /** A NAME behind the others; the caller has looked that it can be and has room. */
        void append(int kind, int mark, int person) {
            if (names > 0) {
                kinds[names - 1] = kind;
                marks[names - 1] = mark;
            }
            owner[names] = person;
            names++;
        }

        boolean hasJoin(int join) {
            return join >= 0 && join < names - 1;
        }

        int timesOf(int person) {
            int often = 0;
            for (int i = 0; i < names; i++) {
                if (owner[i] == person) {
                    often++;
                }
            }
            return often;
        }

        int namedMask(int from, int to) {
            int mask = 0;
            for (int i = from; i <= to; i++) {
                mask |= 1 << owner[i];
            }
            return mask;
        }

        Text lawOf(int law) {
            return isBelow(law, laws) ? lawAt[law] : null;
        }
    }

    /** What can be undone, the oldest first. */
    private static final class Log {
        private static final int MOST = 16;
        int size = 0;
        final int[] what = new int[MOST];
        final int[] where = new int[MOST];
        final int[] was = new int[MOST];

        void note(int deed, int place, int old) {
            if (size >= MOST) {
                size = MOST - 1;
                System.arraycopy(what, 1, what, 0, size);
                System.arraycopy(where, 1, where, 0, size);
                System.arraycopy(was, 1, was, 0, size);
            }
            what[size] = deed;
            where[size] = place;
            was[size] = old;
            size++;
        }

        void copyFrom(Log other) {
            size = other.size;
            System.arraycopy(other.what, 0, what, 0, MOST);
            System.arraycopy(other.where, 0, where, 0, MOST);
            System.arraycopy(other.was, 0, was, 0, MOST);
        }
    }

    /** A TEXT that was read: its CLAUSES, and code for each SUM and TEST of them. */
    private static final class Text {
        int clauses = 0;
        int size = 0;
        final int[] head;
        /** Where the code of the first SUM, the second SUM, the TEST begins, or NONE. */
        final int[] first;
        final int[] second;
        final int[] test;
        final int[] repeats;
        /** Each the number of an operation and, above its bits, what it is about. */
        final int[] code;

        /** Room for any TEXT, to be used again. */
        Text() {
            head = new int[MOST_CLAUSES];
            first = new int[MOST_CLAUSES];
            second = new int[MOST_CLAUSES];
            test = new int[MOST_CLAUSES];
            repeats = new int[MOST_CLAUSES];
            code = new int[MOST_BYTES];
        }

        /** A copy of one that was read, with no more room than it needs. */
        Text(Text other) {
            clauses = other.clauses;
            size = other.size;
            head = new int[clauses];
            first = new int[clauses];
            second = new int[clauses];
            test = new int[clauses];
            repeats = new int[clauses];
            code = new int[size];
            System.arraycopy(other.head, 0, head, 0, clauses);
            System.arraycopy(other.first, 0, first, 0, clauses);
            System.arraycopy(other.second, 0, second, 0, clauses);
            System.arraycopy(other.test, 0, test, 0, clauses);
            System.arraycopy(other.repeats, 0, repeats, 0, clauses);
            System.arraycopy(other.code, 0, code, 0, size);
        }

        /** Puts an operation behind the others: its place. */
        int emit(int op, int about) {
            // 50 PARTS need far less than there is room for; a full row is left as it is.
            if (size < code.length) {
                code[size] = about << OP_BITS | op;
                size++;
            }
            return size - 1;
        }

        /** An "and", an "or" goes on behind all there is now, if what follows it can't matter. */
        void skipToHere(int place) {
            if (isBelow(place, size)) {
                code[place] = size << OP_BITS | code[place] & OP_MASK;
            }
        }
    }

    /** The TAPE, and the reading of TEXTS from it. */
    private static final class Reader {
        final int[] bytes = new int[MOST_BYTES];
        int length = 0;
        int faultAt = NONE;
        final Text text = new Text();
        private boolean lawful = true;
        /** The TOKEN that is looked at; both are the TAPE's length at its end. */
        private int start = 0;
        private int stop = 0;
        private int parts = 0;
        private int open = 0;

        /** Four bytes, the highest first; the caller has looked that there is room. */
        void append(int four) {
            for (int shift = 24; shift >= 0 && length < MOST_BYTES; shift -= 8) {
                bytes[length] = four >> shift & 255;
                length++;
            }
        }

        /** Reads the TAPE, which is empty then, as a LAW or as ORDERS; false with a FAULT. */
        boolean parse(boolean asLaw) {
            lawful = asLaw;
            parts = 0;
            open = 0;
            stop = 0;
            faultAt = NONE;
            text.clauses = 0;
            text.size = 0;
            advance();
            boolean ends = false;
            boolean goesOn = true;
            for (int c = 0; c < MOST_CLAUSES && goesOn; c++) {
                goesOn = (lawful ? lawClause(c) : orderClause(c)) && condition(c);
                if (goesOn) {
                    text.clauses = c + 1;
                    ends = start >= length;
                    goesOn = !ends && (isSign(';') || fail());
                    advance();
                }
            }
            if (goesOn) {
                fail();
            }
            length = 0;
            return ends;
        }

        private boolean lawClause(int c) {
            int head = wordIn(LAW_HEADS);
            if (head == NONE) {
                return fail();
            }
            advance();
            begin(c, head);
            if (head == BARS) {
                return true;
            }
            text.first[c] = text.size;
            return sum(false) && finish();
        }

        private boolean orderClause(int c) {
            int head = wordIn(ORDER_HEADS);
            if (head == NONE) {
                return fail();
            }
            advance();
            begin(c, head);
            if (head != TO_PASS) {
                text.first[c] = text.size;
                if (!sum(false) || !finish()) {
                    return false;
                }
            }
            if (head == TO_MARK || head == TO_TURN) {
                if (wordIn(head == TO_MARK ? "as" : "to") == NONE) {
                    return fail();
                }
                advance();
                text.second[c] = text.size;
                if (!sum(false) || !finish()) {
                    return false;
                }
            }
            if (wordIn("times") != NONE) {
                advance();
                int often = number();
                if (often < 1 || often > MOST_REPEATS) {
                    return fail();
                }
                advance();
                text.repeats[c] = often;
            }
            return true;
        }

        private void begin(int c, int head) {
            text.head[c] = head;
            text.first[c] = NONE;
            text.second[c] = NONE;
            text.test[c] = NONE;
            text.repeats[c] = 1;
        }

        /** The code of a SUM, a TEST has its end here. */
        private boolean finish() {
            text.emit(OP_END, 0);
            return true;
        }

        private boolean condition(int c) {
            if (wordIn("if") == NONE) {
                return true;
            }
            advance();
            text.test[c] = text.size;
            return test(false) && finish();
        }

        /** A TEST, or a BOTH of one; the brackets' limit keeps it from going deep. */
        private boolean test(boolean isBoth) {
            String link = isBoth ? "and" : "or";
            if (isBoth ? !plain() : !test(true)) {
                return false;
            }
            for (int i = 0; i < MOST_BYTES && wordIn(link) != NONE; i++) {
                advance();
                int skip = text.emit(isBoth ? OP_AND : OP_OR, 0);
                if (isBoth ? !plain() : !test(true)) {
                    return false;
                }
                text.skipToHere(skip);
            }
            return true;
        }

        private boolean plain() {
            boolean turned = false;
            for (int i = 0; i < MOST_BYTES && wordIn("not") != NONE; i++) {
                turned = !turned;
                advance();
            }
            if (isSign('(')) {
                if (open >= MOST_OPEN) {
                    return fail();
                }
                open++;
                advance();
                if (!test(false)) {
                    return false;
                }
                if (!isSign(')')) {
                    return fail();
                }
                open--;
                advance();
            } else {
                if (!sum(false)) {
                    return false;
                }
                int op = isSign('<') ? OP_BELOW : isSign('>') ? OP_ABOVE : OP_EQUAL;
                if (op == OP_EQUAL && !isSign('=')) {
                    return fail();
                }
                advance();
                if (!sum(false)) {
                    return false;
                }
                text.emit(op, 0);
            }
            if (turned) {
                text.emit(OP_NOT, 0);
            }
            return true;
        }

        /** A SUM, or a TERM of one; the brackets' limit keeps it from going deep. */
        private boolean sum(boolean isTerm) {
            if (isTerm ? !part() : !sum(true)) {
                return false;
            }
            int op = isTerm ? termSign() : sumSign();
            for (int i = 0; i < MOST_BYTES && op != NONE; i++) {
                advance();
                if (isTerm ? !part() : !sum(true)) {
                    return false;
                }
                text.emit(op, 0);
                op = isTerm ? termSign() : sumSign();
            }
            return true;
        }

        private int termSign() {
            if (isSign('*')) {
                return OP_TIMES;
            }
            if (isSign('/')) {
                return OP_DIVIDE;
            }
            return isSign('%') ? OP_REST : NONE;
        }

        private int sumSign() {
            if (isSign('+')) {
                return OP_ADD;
            }
            return isSign('-') ? OP_LESSEN : NONE;
        }

        private boolean part() {
            if (isSign('[')) {
                if (open >= MOST_OPEN) {
                    return fail();
                }
                open++;
                advance();
                if (!sum(false)) {
                    return false;
                }
                if (!isSign(']')) {
                    return fail();
                }
                open--;
                advance();
                return true;
            }
            int number = number();
            int word = wordIn(lawful ? LAW_WORDS : ORDER_WORDS);
            if (number == NONE && word == NONE || number > MOST_NUMBER || parts >= MOST_PARTS) {
                return fail();
            }
            parts++;
            advance();
            if (number != NONE) {
                text.emit(OP_NUMBER, number);
                return true;
            }
            if (!lawful && word >= ORDER_MARK) {
                int j = number();
                if (!isBelow(j, MOST_JOINS)) {
                    return fail();
                }
                advance();
                // In the list "kind" stands right behind "mark", which takes six words here.
                word = (word == ORDER_MARK ? ORDER_MARK : ORDER_KIND) + j;
            }
            text.emit(OP_WORD, word);
            return true;
        }

        private boolean fail() {
            faultAt = start;
            return false;
        }

        private void advance() {
            int at = stop;
            while (at < length && bytes[at] == ' ') {
                at++;
            }
            start = at;
            boolean isWord = at < length && bytes[at] >= 'a' && bytes[at] <= 'z';
            boolean isNumber = at < length && bytes[at] >= '0' && bytes[at] <= '9';
            if (at < length) {
                at++;
            }
            while (isWord && at < length && bytes[at] >= 'a' && bytes[at] <= 'z') {
                at++;
            }
            while (isNumber && at < length && bytes[at] >= '0' && bytes[at] <= '9') {
                at++;
            }
            stop = at;
        }

        private boolean isSign(char sign) {
            return start < length && bytes[start] == sign;
        }

        /** The TOKEN as a NUMBER (a great one as some number that is too great), or NONE. */
        private int number() {
            if (start >= length || bytes[start] < '0' || bytes[start] > '9') {
                return NONE;
            }
            int value = 0;
            for (int i = start; i < stop; i++) {
                value = Math.min(10 * MOST_NUMBER, 10 * value + bytes[i] - '0');
            }
            return value;
        }

        /** Which word of a list, with a blank between two, the TOKEN is, or NONE. */
        private int wordIn(String list) {
            int word = 0;
            int at = start;
            boolean isSame = true;
            for (int i = 0; i <= list.length(); i++) {
                if (i == list.length() || list.charAt(i) == ' ') {
                    if (isSame && at == stop) {
                        return word;
                    }
                    word++;
                    at = start;
                    isSame = true;
                } else if (isSame) {
                    isSame = at < stop && bytes[at] == list.charAt(i);
                    at++;
                }
            }
            return NONE;
        }
    }

    /** A machine with a stack for the code of SUMS and TESTS, and what words tell. */
    private static final class Sums {
        final int[] words = new int[MOST_WORDS];
        private final int[] stack = new int[MOST_PARTS];

        /** What a SUM is, whether a TEST is so (1, 0), or BROKEN. */
        int evaluate(Text text, int from) {
            int at = from;
            int top = 0;
            for (int step = 0; step < text.size && isBelow(at, text.size); step++) {
                int op = text.code[at] & OP_MASK;
                int about = text.code[at] >> OP_BITS;
                at++;
                if (op == OP_NUMBER || op == OP_WORD) {
                    if (top >= MOST_PARTS || op == OP_WORD && about >= MOST_WORDS) {
                        return BROKEN;
                    }
                    stack[top] = op == OP_NUMBER ? about : words[about];
                    top++;
                    continue;
                }
                if (top < 1 || op > OP_OR && top < 2) {
                    return BROKEN;
                }
                int upper = stack[top - 1];
                if (op == OP_END) {
                    return upper;
                }
                if (op == OP_NOT) {
                    stack[top - 1] = 1 - upper;
                } else if (op == OP_AND && upper == 0 || op == OP_OR && upper != 0) {
                    at = about;
                } else {
                    top--;
                }
                if (op > OP_OR) {
                    long value = combine(op, stack[top - 1], upper);
                    if (value > MOST_SUM || value < -MOST_SUM) {
                        return BROKEN;
                    }
                    stack[top - 1] = (int) value;
                }
            }
            return BROKEN;
        }

        private static long combine(int op, long a, long b) {
            switch (op) {
                case OP_ADD:
                    return a + b;
                case OP_LESSEN:
                    return a - b;
                case OP_TIMES:
                    return a * b;
                case OP_DIVIDE:
                    return b == 0 ? BROKEN : a / b;
                case OP_REST:
                    return b == 0 ? BROKEN : a % b;
                case OP_BELOW:
                    return a < b ? 1 : 0;
                case OP_ABOVE:
                    return a > b ? 1 : 0;
                default:
                    return a == b ? 1 : 0;
            }
        }
    }

    /**
     * All trees that so many JOINS can make, in the order of READINGS, and which of them are
     * READINGS by the MARKS: those in which no JOIN lies right above one with a greater MARK.
     */
    private static final class Forest {
        int trees = 0;
        /** How many JOINS are above each JOIN of each tree. */
        final int[] deep = new int[MOST_TREES * MOST_JOINS];
        /** For each two JOINS the set of trees in which the first is right above the second. */
        final long[] above = new long[MOST_JOINS * MOST_JOINS * SET];
        /** The READINGS: which trees they are. */
        final int[] list = new int[MOST_TREES];
        int count = 0;
        private int joins = NONE;

        /** Trees of so many JOINS, none below 0. */
        void grow(int wanted) {
            if (wanted == joins) {
                return;
            }
            joins = wanted;
            trees = isBelow(wanted, TREES.length) ? TREES[wanted] : 0;
            for (int i = 0; i < above.length; i++) {
                above[i] = 0;
            }
            for (int t = 0; t < trees; t++) {
                place(t, 0, joins, t, NONE, 0);
            }
        }

        /** Puts JOINS from .. to - 1 into a tree as the rank-th tree of them has them. */
        private void place(int tree, int from, int to, int rank, int over, int depth) {
            if (from >= to || depth >= MOST_JOINS) {
                return;
            }
            int left = rank;
            for (int top = from; top < to; top++) {
                int ofRight = TREES[to - top - 1];
                int both = TREES[top - from] * ofRight;
                if (left < both && ofRight > 0) {
                    deep[tree * MOST_JOINS + top] = depth;
                    if (over != NONE) {
                        above[(over * MOST_JOINS + top) * SET + (tree >> 6)] |= 1L << (tree & 63);
                    }
                    place(tree, from, top, left / ofRight, top, depth + 1);
                    place(tree, top + 1, to, left % ofRight, top, depth + 1);
                    return;
                }
                left -= both;
            }
        }

        void sift(int[] marks) {
            count = 0;
            for (int part = 0; part < SET; part++) {
                long out = 0;
                for (int j = 0; j < joins; j++) {
                    for (int k = 0; k < joins; k++) {
                        if (marks[j] < marks[k]) {
                            out |= above[(j * MOST_JOINS + k) * SET + part];
                        }
                    }
                }
                for (int t = part * 64; t < trees && t < part * 64 + 64; t++) {
                    if ((out >> (t & 63) & 1) == 0) {
                        list[count] = t;
                        count++;
                    }
                }
            }
        }
    }

    /** What a will gives on paper, by a LAW, a YEAR and who is LIVING then. */
    private static final class Paper {
        /** Behind divide(): what each PERSON GETS. */
        final int[] would = new int[PERSONS];
        /** Room for one who compares what two trees give. */
        final int[] first = new int[PERSONS];
        int barred = 0;
        int fit = 0;
        private final Sums sums = new Sums();
        private Forest forest = null;
        private Will will = null;
        private Text law = null;
        private int base = 0;

        void take(Will given, Forest trees, Text byLaw, int year, int living) {
            will = given;
            forest = trees;
            law = byLaw;
            sums.words[LAW_YEAR] = year;
            sums.words[LAW_MOOD] = given.terms[MOOD];
            barred = 0;
            for (int p = 0; p < PERSONS; p++) {
                askOfPerson(p, given.terms[WORTH]);
                barred |= lawTells(BARS, 0) << p;
            }
            fit = living & ~barred;
        }

        /** What each PERSON GETS in a tree. */
        void divide(int tree) {
            for (int p = 0; p < PERSONS; p++) {
                would[p] = 0;
            }
            if (will == null || forest == null || will.names == 0) {
                return;
            }
            base = tree * MOST_JOINS;
            give(0, will.names - 1, will.terms[WORTH], 0, 0);
            for (int p = 0; p < PERSONS; p++) {
                if (would[p] > 0) {
                    askOfPerson(p, would[p]);
                    would[p] -= would[p] * lawTells(TAXES, 0) / 100;
                }
            }
        }

        /** The piece of NAMES from .. to, whose TOP has so many JOINS above it, is given a worth. */
        private void give(int from, int to, int worth, int out, int depth) {
            if (from >= to) {
                if (isHeir(from, out)) {
                    would[will.owner[from]] += worth;
                }
                return;
            }
            int top = topOf(from, to, depth);
            if (top == NONE) {
                return;
            }
            if (will.kinds[top] == BUT) {
                give(from, top, worth, out | will.namedMask(top + 1, to), depth + 1);
                return;
            }
            boolean left = takes(from, top, out, depth + 1);
            boolean right = takes(top + 1, to, out, depth + 1);
            if (left && right && will.kinds[top] == AND) {
                askOfJoin(top, top - from + 1, to - top, worth);
                int share = worth * lawTells(SHARES, 50) / 100;
                give(from, top, share, out, depth + 1);
                give(top + 1, to, worth - share, out, depth + 1);
            } else if (left) {
                give(from, top, worth, out, depth + 1);
            } else if (right) {
                give(top + 1, to, worth, out, depth + 1);
            }
        }

        private boolean takes(int from, int to, int out, int depth) {
            if (from >= to) {
                return isHeir(from, out);
            }
            int top = topOf(from, to, depth);
            if (top == NONE) {
                return false;
            }
            if (will.kinds[top] == BUT) {
                return takes(from, top, out | will.namedMask(top + 1, to), depth + 1);
            }
            return takes(from, top, out, depth + 1) || takes(top + 1, to, out, depth + 1);
        }

        private boolean isHeir(int name, int out) {
            return bit(fit & ~out, will.owner[name]) == 1;
        }

        /** No two JOINS of a piece lie as high as the one on its TOP. */
        private int topOf(int from, int to, int depth) {
            for (int j = from; j < to; j++) {
                if (forest.deep[base + j] == depth) {
                    return j;
                }
            }
            return NONE;
        }

        private void askOfJoin(int join, int left, int right, int worth) {
            sums.words[LAW_JOIN] = join;
            sums.words[LAW_LEFT] = left;
            sums.words[LAW_RIGHT] = right;
            sums.words[LAW_WORTH] = worth;
            sums.words[LAW_HEIR] = NONE;
            sums.words[LAW_TIMES] = NONE;
        }

        private void askOfPerson(int person, int worth) {
            sums.words[LAW_JOIN] = NONE;
            sums.words[LAW_LEFT] = NONE;
            sums.words[LAW_RIGHT] = NONE;
            sums.words[LAW_WORTH] = worth;
            sums.words[LAW_HEIR] = person;
            sums.words[LAW_TIMES] = will.timesOf(person);
        }

        /** What the last CLAUSE of a kind that HOLDS tells, 0 .. 100 ("bars": 1). */
        private int lawTells(int head, int without) {
            if (law == null) {
                return without;
            }
            for (int c = law.clauses - 1; c >= 0; c--) {
                if (law.head[c] == head
                        && (law.test[c] == NONE || sums.evaluate(law, law.test[c]) == 1)) {
                    int value = head == BARS ? 1 : sums.evaluate(law, law.first[c]);
                    if (value != BROKEN) {
                        return Math.max(0, Math.min(100, value));
                    }
                }
            }
            return without;
        }
    }

    /** What each tree gives to each PERSON by all that stands, found out when it is asked for. */
    private static final class Ledger {
        final int[] got = new int[MOST_TREES * PERSONS];
        final Paper paper = new Paper();
        private final boolean[] isKnown = new boolean[MOST_TREES];

        void open(Will will, Forest forest) {
            paper.take(will, forest, will.lawOf(will.inForce), will.terms[YEAR], will.living);
            for (int t = 0; t < MOST_TREES; t++) {
                isKnown[t] = false;
            }
        }

        void know(int tree) {
            if (!isKnown[tree]) {
                paper.divide(tree);
                System.arraycopy(paper.would, 0, got, tree * PERSONS, PERSONS);
                isKnown[tree] = true;
            }
        }

        /** Whether two trees that are known give alike to all. */
        boolean areAlike(int tree, int other) {
            for (int p = 0; p < PERSONS; p++) {
                if (got[tree * PERSONS + p] != got[other * PERSONS + p]) {
                    return false;
                }
            }
            return true;
        }
    }

    /** Seeks the fewest MARKS more that SETTLE a tree. */
    private static final class Settler {
        /** For which tree the answer stands, or NONE. */
        int tree = NONE;
        /** The answer: how many MARKS more (NONE: it can't be), and the MARKS then. */
        int more = NONE;
        final int[] trial = new int[MOST_JOINS];
        /** The trees that give otherwise: none of these may be a READING then. */
        private final long[] wrong = new long[SET];
        private Forest forest = null;
        private int[] least = null;

        /** The caller has looked that the ledger knows all trees. */
        void search(int wanted, Forest trees, Ledger ledger, int[] marks) {
            tree = wanted;
            more = NONE;
            forest = trees;
            least = marks;
            for (int i = 0; i < SET; i++) {
                wrong[i] = 0;
            }
            for (int t = 0; t < forest.trees; t++) {
                if (!ledger.areAlike(t, wanted)) {
                    wrong[t >> 6] |= 1L << (t & 63);
                }
            }
            for (int total = 0; total <= MOST_JOINS * MOST_MARK && more == NONE; total++) {
                if (spread(0, total, 0L, 0L, 0L)) {
                    more = total;
                }
            }
        }

        /**
         * Tries MARKS for a JOIN and those behind it, so many more in all, rising; the trees that
         * the MARKS ahead of it rule out come as a set of three longs.
         */
        private boolean spread(int join, int left, long a, long b, long c) {
            if (forest == null || least == null) {
                return false;
            }
            if (join >= forest.joins) {
                return left == 0 && (wrong[0] & ~a) == 0 && (wrong[1] & ~b) == 0
                        && (wrong[2] & ~c) == 0;
            }
            int room = 0;
            for (int k = join + 1; k < forest.joins; k++) {
                room += MOST_MARK - least[k];
            }
            int from = least[join] + Math.max(0, left - room);
            int to = Math.min(MOST_MARK, least[join] + left);
            for (int mark = from; mark <= to; mark++) {
                trial[join] = mark;
                long x = a;
                long y = b;
                long z = c;
                for (int k = 0; k < join; k++) {
                    if (trial[k] != mark) {
                        int upper = trial[k] < mark ? k : join;
                        int at = (upper * MOST_JOINS + (upper == k ? join : k)) * SET;
                        x |= forest.above[at];
                        y |= forest.above[at + 1];
                        z |= forest.above[at + 2];
                    }
                }
                if (spread(join + 1, left - (mark - least[join]), x, y, z)) {
                    return true;
                }
            }
            return false;
        }
    }
}
