import java.util.ArrayList;
import java.util.Arrays;
import java.util.HashMap;
import java.util.HashSet;
import java.util.List;
import java.util.Map;

/** The document once more, written as plainly as can be and without regard to cost. */
final class Oracle {
    static final int NONE = -1;

    private static final class Fault extends RuntimeException {
        private static final long serialVersionUID = 1L;
        final int place;

        Fault(int place) {
            super("fault", null, false, false);
            this.place = place;
        }
    }

    private static final class Broken extends RuntimeException {
        private static final long serialVersionUID = 1L;

        Broken() {
            super("broken", null, false, false);
        }
    }

    /** A SUM or a TEST: a sign with its parts. */
    private record Node(String sign, int number, Node left, Node right) {
    }

    private record Clause(String head, Node first, Node second, int times, Node test) {
    }

    private record Token(int place, String text) {
        boolean isNumber() {
            return !text.isEmpty() && text.charAt(0) >= '0' && text.charAt(0) <= '9';
        }
    }

    private record Name(int kind, int mark, int person) {
    }

    private record Told(int person, int much) {
    }

    /** A READING: a NAME alone (join NONE), or a JOIN with what is on both sides. */
    private record Tree(int join, int from, int to, Tree left, Tree right) {
    }

    private record Deed(int what, int where, int was) {
    }

    /** What IMAGES keep. */
    private static final class State {
        List<Name> names = new ArrayList<>();
        boolean[] living = {true, true, true, true, true, true};
        List<Integer> judges = new ArrayList<>();
        List<Told> told = new ArrayList<>();
        int[] terms = {0, 1000, 0, 1};
        List<List<Clause>> laws = new ArrayList<>();
        int force = NONE;

        State copy() {
            State s = new State();
            s.names = new ArrayList<>(names);
            s.living = living.clone();
            s.judges = new ArrayList<>(judges);
            s.told = new ArrayList<>(told);
            s.terms = terms.clone();
            s.laws = new ArrayList<>(laws);
            s.force = force;
            return s;
        }
    }

    private State state = new State();
    private final State[] images = new State[2];
    private List<Deed> deeds = new ArrayList<>();
    private StringBuilder tape = new StringBuilder();
    private int fault = NONE;
    private int blots = 0;
    private int stopped = NONE;
    private int status = 0;
    private boolean[] drawn = null;
    private final Map<Integer, Integer> refusals = new HashMap<>();

    private int refuse(int code) {
        status = code;
        refusals.merge(code, 1, Integer::sum);
        return code;
    }

    private int fine(int answer) {
        status = 0;
        return answer;
    }

    int name(int kind, int mark, int person) {
        if (!nameCanBe(kind, mark, person)) {
            return refuse(-1);
        }
        if (state.names.size() == 7) {
            return refuse(-5);
        }
        state.names.add(new Name(kind, mark, person));
        deeds.clear();
        return fine(state.names.size() - 1);
    }

    private boolean nameCanBe(int kind, int mark, int person) {
        if (person < 0 || person > 5) {
            return false;
        }
        if (state.names.isEmpty()) {
            return kind == 0 && mark == 0;
        }
        return kind >= 0 && kind <= 2 && mark >= 0 && mark <= 3;
    }

    int who(int name) {
        return name < 0 || name >= state.names.size() ? NONE : state.names.get(name).person();
    }

    private boolean isJoin(int join) {
        return join >= 0 && join < state.names.size() - 1;
    }

    private int kind(int join) {
        return state.names.get(join + 1).kind();
    }

    private int markOf(int join) {
        return state.names.get(join + 1).mark();
    }

    int join(int join, int what) {
        if (!isJoin(join) || what < 0 || what > 1) {
            return NONE;
        }
        return what == 0 ? kind(join) : markOf(join);
    }

    private static boolean isPerson(int person) {
        return person >= 0 && person < 6;
    }

    private int times(int person) {
        return (int) state.names.stream().filter(n -> n.person() == person).count();
    }

    int of(int person, int what) {
        if (!isPerson(person)) {
            return NONE;
        }
        switch (what) {
            case 0:
                return state.living[person] ? 1 : 0;
            case 1:
                return times(person);
            case 2:
                return barred(inForce(), person, state.terms[0]) ? 1 : 0;
            default:
                return NONE;
        }
    }

    int terms(int what, int value) {
        int[] most = {999, 9999, 9, 10};
        if (what < 0 || what > 3 || value < 0 || value > most[what]) {
            return refuse(-1);
        }
        int was = state.terms[what];
        state.terms[what] = value;
        deeds.clear();
        return fine(was);
    }

    int feed(int a, int b, int c, int d, int e) {
        if (tape.length() + 20 > 400) {
            return NONE;
        }
        for (int v : new int[] {a, b, c, d, e}) {
            tape.append((char) (v >>> 24)).append((char) (v >>> 16 & 255));
            tape.append((char) (v >>> 8 & 255)).append((char) (v & 255));
        }
        return tape.length();
    }

    int end(int n) {
        if (n < 0 || n > tape.length()) {
            return NONE;
        }
        tape.setLength(n);
        return n;
    }

    private String takeTape() {
        String text = tape.toString();
        tape = new StringBuilder();
        return text;
    }

    int row() {
        if (tape.length() == 0) {
            return refuse(-6);
        }
        String bytes = takeTape();
        int came = 0;
        blots = 0;
        while (!bytes.isEmpty()) {
            String three = bytes.substring(0, Math.min(3, bytes.length()));
            bytes = bytes.substring(three.length());
            if (three.length() == 3 && state.names.size() < 7
                    && nameCanBe(three.charAt(0), three.charAt(1), three.charAt(2))) {
                state.names.add(new Name(three.charAt(0), three.charAt(1), three.charAt(2)));
                came++;
            } else {
                blots++;
            }
        }
        deeds.clear();
        return fine(came);
    }

    int blots() {
        return blots;
    }

    // TEXTS

    private List<Token> tokens = List.of();
    private int next = 0;
    private int parts = 0;
    private int depth = 0;
    private boolean isLaw = false;

    private static List<Token> split(String text) {
        List<Token> found = new ArrayList<>();
        int at = 0;
        while (at < text.length()) {
            int from = at;
            char c = text.charAt(at++);
            if (c == ' ') {
                continue;
            }
            String row = c >= 'a' && c <= 'z' ? "abcdefghijklmnopqrstuvwxyz"
                    : c >= '0' && c <= '9' ? "0123456789" : "";
            while (at < text.length() && row.indexOf(text.charAt(at)) >= 0) {
                at++;
            }
            found.add(new Token(from, text.substring(from, at)));
        }
        found.add(new Token(text.length(), ""));
        return found;
    }

    private Token look() {
        return tokens.get(next);
    }

    private boolean is(String... texts) {
        return Arrays.asList(texts).contains(look().text());
    }

    private Token any() {
        Token t = look();
        if (next < tokens.size() - 1) {
            next++;
        }
        return t;
    }

    private Token must(String... texts) {
        if (!is(texts)) {
            throw new Fault(look().place());
        }
        return any();
    }

    private int mustNumber(int least, int most) {
        Token t = look();
        if (!t.isNumber()) {
            throw new Fault(t.place());
        }
        java.math.BigInteger value = new java.math.BigInteger(t.text());
        if (value.bitLength() > 30 || value.intValue() < least || value.intValue() > most) {
            throw new Fault(t.place());
        }
        any();
        return value.intValue();
    }

    private List<Clause> parse(String text, boolean asLaw) {
        tokens = split(text);
        next = 0;
        parts = 0;
        depth = 0;
        isLaw = asLaw;
        List<Clause> clauses = new ArrayList<>();
        clauses.add(clause());
        while (!is("")) {
            must(";");
            if (clauses.size() == 12) {
                throw new Fault(look().place());
            }
            clauses.add(clause());
        }
        return clauses;
    }

    private Clause clause() {
        Node first = null;
        Node second = null;
        int times = 1;
        Node test = null;
        String head;
        if (isLaw) {
            head = must("shares", "taxes", "bars").text();
            if (!head.equals("bars")) {
                first = sum();
            }
        } else {
            head = must("mark", "turn", "die", "pass").text();
            if (!head.equals("pass")) {
                first = sum();
            }
            if (head.equals("mark")) {
                must("as");
                second = sum();
            }
            if (head.equals("turn")) {
                must("to");
                second = sum();
            }
            if (is("times")) {
                any();
                times = mustNumber(1, 20);
            }
        }
        if (is("if")) {
            any();
            test = test();
        }
        return new Clause(head, first, second, times, test);
    }

    private Node test() {
        Node node = both();
        while (is("or")) {
            any();
            node = new Node("or", 0, node, both());
        }
        return node;
    }

    private Node both() {
        Node node = plain();
        while (is("and")) {
            any();
            node = new Node("and", 0, node, plain());
        }
        return node;
    }

    private void open(String sign) {
        if (depth == 8) {
            throw new Fault(look().place());
        }
        must(sign);
        depth++;
    }

    private void close(String sign) {
        must(sign);
        depth--;
    }

    private Node plain() {
        if (is("not")) {
            any();
            return new Node("not", 0, plain(), null);
        }
        if (is("(")) {
            open("(");
            Node node = test();
            close(")");
            return node;
        }
        Node left = sum();
        String sign = must("<", ">", "=").text();
        return new Node(sign, 0, left, sum());
    }

    private Node sum() {
        Node node = term();
        while (is("+", "-")) {
            String sign = any().text();
            node = new Node(sign, 0, node, term());
        }
        return node;
    }

    private Node term() {
        Node node = part();
        while (is("*", "/", "%")) {
            String sign = any().text();
            node = new Node(sign, 0, node, part());
        }
        return node;
    }

    private Node part() {
        if (is("[")) {
            open("[");
            Node node = sum();
            close("]");
            return node;
        }
        if (parts == 50) {
            throw new Fault(look().place());
        }
        parts++;
        if (look().isNumber()) {
            return new Node("number", mustNumber(0, 1000), null, null);
        }
        if (isLaw) {
            String word = must("join", "left", "right", "worth", "heir", "times", "year", "mood")
                    .text();
            return new Node(word, 0, null, null);
        }
        String word = must("year", "done", "latest", "readings", "living", "mark", "kind").text();
        int j = word.equals("mark") || word.equals("kind") ? mustNumber(0, 5) : 0;
        return new Node(word, j, null, null);
    }

    private static long value(Node node, Map<String, Integer> words) {
        switch (node.sign()) {
            case "number":
                return node.number();
            case "+":
            case "-":
            case "*":
            case "/":
            case "%":
                long a = value(node.left(), words);
                long b = value(node.right(), words);
                if (b == 0 && (node.sign().equals("/") || node.sign().equals("%"))) {
                    throw new Broken();
                }
                long v = node.sign().equals("+") ? a + b : node.sign().equals("-") ? a - b
                        : node.sign().equals("*") ? a * b : node.sign().equals("/") ? a / b
                        : a - a / b * b;
                if (Math.abs(v) > 1_000_000_000L) {
                    throw new Broken();
                }
                return v;
            case "mark":
            case "kind":
                return words.get(node.sign() + node.number());
            default:
                return words.get(node.sign());
        }
    }

    private static boolean isSo(Node node, Map<String, Integer> words) {
        switch (node.sign()) {
            case "or":
                return isSo(node.left(), words) || isSo(node.right(), words);
            case "and":
                return isSo(node.left(), words) && isSo(node.right(), words);
            case "not":
                return !isSo(node.left(), words);
            default:
                long a = value(node.left(), words);
                long b = value(node.right(), words);
                return node.sign().equals("<") ? a < b : node.sign().equals(">") ? a > b : a == b;
        }
    }

    int law() {
        String text = takeTape();
        if (state.laws.size() == 6) {
            return refuse(-5);
        }
        fault = NONE;
        try {
            state.laws.add(parse(text, true));
        } catch (Fault f) {
            fault = f.place;
            return refuse(-6);
        }
        return fine(state.laws.size() - 1);
    }

    private Map<String, Integer> lookAround(int done, int latest) {
        Map<String, Integer> words = new HashMap<>();
        words.put("year", state.terms[0]);
        words.put("done", done);
        words.put("latest", latest);
        words.put("readings", readings());
        words.put("living", count(1));
        for (int j = 0; j < 6; j++) {
            words.put("mark" + j, join(j, 1));
            words.put("kind" + j, join(j, 0));
        }
        return words;
    }

    int orders() {
        String text = takeTape();
        fault = NONE;
        stopped = NONE;
        List<Clause> clauses;
        try {
            clauses = parse(text, false);
        } catch (Fault f) {
            fault = f.place;
            return refuse(-6);
        }
        State before = state.copy();
        List<Deed> deedsBefore = new ArrayList<>(deeds);
        int done = 0;
        int latest = NONE;
        for (int c = 0; c < clauses.size(); c++) {
            Clause clause = clauses.get(c);
            for (int i = 0; i < clause.times(); i++) {
                Map<String, Integer> words = lookAround(done, latest);
                try {
                    if (clause.test() != null && !isSo(clause.test(), words)) {
                        continue;
                    }
                } catch (Broken b) {
                    continue;
                }
                int answer = run(clause, words);
                if (answer < 0) {
                    state = before;
                    deeds = deedsBefore;
                    stopped = c;
                    return refuse(-3);
                }
                if (clause.head().equals("mark")) {
                    latest = answer;
                }
                done++;
            }
        }
        return fine(done);
    }

    private int run(Clause clause, Map<String, Integer> words) {
        int a;
        int b;
        try {
            a = clause.first() == null ? 0 : (int) value(clause.first(), words);
            b = clause.second() == null ? 0 : (int) value(clause.second(), words);
        } catch (Broken broken) {
            return -3;
        }
        switch (clause.head()) {
            case "mark":
                return toMark(a, b);
            case "turn":
                return toTurn(a, b);
            case "die":
                return toDie(a);
            default:
                return toPass();
        }
    }

    int fault() {
        return fault;
    }

    int stopped() {
        return stopped;
    }

    int force(int law) {
        if (law < -1 || law >= state.laws.size()) {
            return refuse(-2);
        }
        int was = state.force;
        state.force = law;
        return fine(was);
    }

    private List<Clause> inForce() {
        return state.force == NONE ? List.of() : state.laws.get(state.force);
    }

    // Changes

    private void note(int what, int where, int was) {
        deeds.add(new Deed(what, where, was));
        if (deeds.size() > 16) {
            deeds.remove(0);
        }
    }

    private void setJoin(int join, int kind, int mark) {
        state.names.set(join + 1, new Name(kind, mark, who(join + 1)));
    }

    private int toMark(int join, int mark) {
        if (mark < 0 || mark > 3) {
            return -1;
        }
        if (!isJoin(join)) {
            return -2;
        }
        if (markOf(join) == mark) {
            return -3;
        }
        note(0, join, markOf(join));
        setJoin(join, kind(join), mark);
        return readings();
    }

    private int toTurn(int join, int kind) {
        if (kind < 0 || kind > 2) {
            return -1;
        }
        if (!isJoin(join)) {
            return -2;
        }
        int was = kind(join);
        if (was == kind) {
            return -3;
        }
        note(1, join, was);
        setJoin(join, kind, markOf(join));
        return was;
    }

    private int toDie(int person) {
        if (!isPerson(person)) {
            return -1;
        }
        if (!state.living[person]) {
            return -3;
        }
        note(2, person, 0);
        state.living[person] = false;
        return count(1);
    }

    private int toPass() {
        if (state.terms[0] == 999) {
            return -3;
        }
        note(3, 0, 0);
        return ++state.terms[0];
    }

    private int told(int answer) {
        return answer < 0 ? refuse(answer) : fine(answer);
    }

    int mark(int join, int mark) {
        return told(toMark(join, mark));
    }

    int turn(int join, int kind) {
        return told(toTurn(join, kind));
    }

    int die(int person) {
        return told(toDie(person));
    }

    int pass() {
        return told(toPass());
    }

    int undo() {
        if (deeds.isEmpty()) {
            return refuse(-3);
        }
        Deed d = deeds.remove(deeds.size() - 1);
        if (d.what() == 0) {
            setJoin(d.where(), kind(d.where()), d.was());
        } else if (d.what() == 1) {
            setJoin(d.where(), d.was(), markOf(d.where()));
        } else if (d.what() == 2) {
            state.living[d.where()] = true;
        } else {
            state.terms[0]--;
        }
        return fine(d.what());
    }

    // READINGS

    private int[] marks() {
        int[] marks = new int[Math.max(0, state.names.size() - 1)];
        for (int j = 0; j < marks.length; j++) {
            marks[j] = markOf(j);
        }
        return marks;
    }

    private List<Tree> trees(int[] marks) {
        return state.names.isEmpty() ? List.of() : trees(marks, 0, state.names.size() - 1);
    }

    private static List<Tree> trees(int[] marks, int from, int to) {
        List<Tree> all = new ArrayList<>();
        if (from == to) {
            all.add(new Tree(NONE, from, to, null, null));
            return all;
        }
        int greatest = 0;
        for (int j = from; j < to; j++) {
            greatest = Math.max(greatest, marks[j]);
        }
        for (int j = from; j < to; j++) {
            if (marks[j] == greatest) {
                for (Tree left : trees(marks, from, j)) {
                    for (Tree right : trees(marks, j + 1, to)) {
                        all.add(new Tree(j, from, to, left, right));
                    }
                }
            }
        }
        return all;
    }

    int readings() {
        return trees(marks()).size();
    }

    int depth(int reading, int join) {
        List<Tree> all = trees(marks());
        if (reading < 0 || reading >= all.size() || !isJoin(join)) {
            return NONE;
        }
        int above = 0;
        Tree tree = all.get(reading);
        while (tree.join() != join) {
            tree = join < tree.join() ? tree.left() : tree.right();
            above++;
        }
        return above;
    }

    private Map<String, Integer> lawWords(int year) {
        Map<String, Integer> words = new HashMap<>();
        for (String w : List.of("join", "left", "right", "heir", "times")) {
            words.put(w, -1);
        }
        words.put("year", year);
        words.put("mood", state.terms[2]);
        return words;
    }

    private static boolean holds(Clause clause, Map<String, Integer> words) {
        try {
            if (clause.test() != null && !isSo(clause.test(), words)) {
                return false;
            }
            if (clause.first() != null) {
                value(clause.first(), words);
            }
            return true;
        } catch (Broken b) {
            return false;
        }
    }

    private static int tells(List<Clause> law, String head, Map<String, Integer> words, int none) {
        int answer = none;
        for (Clause clause : law) {
            if (clause.head().equals(head) && holds(clause, words)) {
                answer = (int) Math.max(0, Math.min(100, value(clause.first(), words)));
            }
        }
        return answer;
    }

    private boolean barred(List<Clause> law, int person, int year) {
        Map<String, Integer> words = lawWords(year);
        words.put("heir", person);
        words.put("times", times(person));
        words.put("worth", state.terms[1]);
        return law.stream().anyMatch(c -> c.head().equals("bars") && holds(c, words));
    }

    /** One division of a worth by a READING. */
    private final class Division {
        final List<Clause> law;
        final int year;
        final boolean[] fit = new boolean[6];
        final int[] would = new int[6];

        Division(List<Clause> law, int year, boolean[] living) {
            this.law = law;
            this.year = year;
            for (int p = 0; p < 6; p++) {
                fit[p] = living[p] && !barred(law, p, year);
            }
        }

        boolean takes(Tree t, HashSet<Integer> out) {
            if (t.join() == NONE) {
                int person = who(t.from());
                return fit[person] && !out.contains(person);
            }
            if (kind(t.join()) == 2) {
                return takes(t.left(), with(out, t.right()));
            }
            return takes(t.left(), out) || takes(t.right(), out);
        }

        HashSet<Integer> with(HashSet<Integer> out, Tree right) {
            HashSet<Integer> more = new HashSet<>(out);
            for (int n = right.from(); n <= right.to(); n++) {
                more.add(who(n));
            }
            return more;
        }

        void give(Tree t, int worth, HashSet<Integer> out) {
            if (!takes(t, out)) {
                return;
            }
            if (t.join() == NONE) {
                would[who(t.from())] += worth;
                return;
            }
            boolean left = takes(t.left(), out);
            boolean right = takes(t.right(), out);
            switch (kind(t.join())) {
                case 0:
                    int share = left ? worth : 0;
                    if (left && right) {
                        Map<String, Integer> words = lawWords(year);
                        words.put("join", t.join());
                        words.put("left", t.left().to() - t.left().from() + 1);
                        words.put("right", t.right().to() - t.right().from() + 1);
                        words.put("worth", worth);
                        share = worth * tells(law, "shares", words, 50) / 100;
                    }
                    if (left) {
                        give(t.left(), share, out);
                    }
                    if (right) {
                        give(t.right(), worth - share, out);
                    }
                    break;
                case 1:
                    give(left ? t.left() : t.right(), worth, out);
                    break;
                default:
                    give(t.left(), worth, with(out, t.right()));
                    break;
            }
        }

        int[] gets(Tree t) {
            Arrays.fill(would, 0);
            give(t, state.terms[1], new HashSet<>());
            int[] gets = new int[6];
            for (int p = 0; p < 6; p++) {
                Map<String, Integer> words = lawWords(year);
                words.put("heir", p);
                words.put("times", times(p));
                words.put("worth", would[p]);
                gets[p] = would[p] - would[p] * tells(law, "taxes", words, 0) / 100;
            }
            return gets;
        }
    }

    private List<int[]> rows(int[] marks, List<Clause> law, int year, boolean[] living) {
        List<int[]> rows = new ArrayList<>();
        Division division = new Division(law, year, living);
        for (Tree t : trees(marks)) {
            rows.add(division.gets(t));
        }
        return rows;
    }

    private List<int[]> rows() {
        return rows(marks(), inForce(), state.terms[0], state.living);
    }

    int gets(int reading, int person) {
        return compare(state.force, reading, person);
    }

    int compare(int law, int reading, int person) {
        if (law < -1 || law >= state.laws.size() || !isPerson(person)) {
            return NONE;
        }
        List<Clause> by = law == NONE ? List.of() : state.laws.get(law);
        List<Tree> all = trees(marks());
        if (reading < 0 || reading >= all.size()) {
            return NONE;
        }
        return new Division(by, state.terms[0], state.living).gets(all.get(reading))[person];
    }

    int lost(int reading) {
        List<int[]> rows = rows();
        if (reading < 0 || reading >= rows.size()) {
            return NONE;
        }
        return state.terms[1] - Arrays.stream(rows.get(reading)).sum();
    }

    int range(int person, int what) {
        List<int[]> rows = rows();
        if (rows.isEmpty() || !isPerson(person)) {
            return NONE;
        }
        int[] of = rows.stream().mapToInt(r -> r[person]).toArray();
        int most = Arrays.stream(of).max().getAsInt();
        switch (what) {
            case 0:
                return Arrays.stream(of).min().getAsInt();
            case 1:
                return most;
            case 2:
                int r = 0;
                while (of[r] != most) {
                    r++;
                }
                return r;
            default:
                return NONE;
        }
    }

    private static int unlike(List<int[]> rows) {
        HashSet<String> seen = new HashSet<>();
        for (int[] row : rows) {
            seen.add(Arrays.toString(row));
        }
        return seen.size();
    }

    int unlike() {
        return unlike(rows());
    }

    int settle(int reading, int what) {
        List<int[]> rows = rows();
        int[] now = marks();
        if (reading < 0 || reading >= rows.size() || what < 0 || what > now.length) {
            return NONE;
        }
        int[] wanted = rows.get(reading);
        Division division = new Division(inForce(), state.terms[0], state.living);
        Map<Tree, Boolean> alike = new HashMap<>();
        for (Tree t : trees(new int[now.length])) {
            alike.put(t, Arrays.equals(division.gets(t), wanted));
        }
        int[] best = null;
        int fewest = Integer.MAX_VALUE;
        int[] trial = now.clone();
        while (trial != null) {
            int more = Arrays.stream(trial).sum() - Arrays.stream(now).sum();
            if (more < fewest && trees(trial).stream().allMatch(alike::get)) {
                fewest = more;
                best = trial.clone();
            }
            trial = following(trial, now);
        }
        if (best == null) {
            return NONE;
        }
        return what == 0 ? fewest : best[what - 1];
    }

    /** The next row of MARKS, none below the least ones, or null. */
    private static int[] following(int[] trial, int[] least) {
        for (int j = trial.length - 1; j >= 0; j--) {
            if (trial[j] < 3) {
                trial[j]++;
                return trial;
            }
            trial[j] = least[j];
        }
        return null;
    }

    int fair(int what) {
        List<int[]> rows = rows();
        Division d = new Division(inForce(), state.terms[0], state.living);
        int best = NONE;
        int where = NONE;
        for (int r = 0; r < rows.size(); r++) {
            int least = Integer.MAX_VALUE;
            for (Name n : state.names) {
                if (d.fit[n.person()]) {
                    least = Math.min(least, rows.get(r)[n.person()]);
                }
            }
            if (least != Integer.MAX_VALUE && least > best) {
                best = least;
                where = r;
            }
        }
        return what == 0 ? where : what == 1 ? best : NONE;
    }

    int told(int person, int much) {
        if (!isPerson(person) || much < 0 || much > 9999) {
            return refuse(-1);
        }
        if (state.told.size() == 6) {
            return refuse(-5);
        }
        state.told.add(new Told(person, much));
        return fine(state.told.size());
    }

    private List<Integer> fitting() {
        List<int[]> rows = rows();
        List<Integer> fitting = new ArrayList<>();
        for (int r = 0; r < rows.size(); r++) {
            int[] row = rows.get(r);
            if (state.told.stream().allMatch(t -> row[t.person()] == t.much())) {
                fitting.add(r);
            }
        }
        return fitting;
    }

    int fits(int i) {
        List<Integer> fitting = fitting();
        if (i == NONE) {
            return fitting.size();
        }
        return i < 0 || i >= fitting.size() ? NONE : fitting.get(i);
    }

    int ask(int what) {
        List<Integer> fitting = fitting();
        if (fitting.isEmpty()) {
            return NONE;
        }
        List<int[]> rows = rows();
        int whom = NONE;
        int left = Integer.MAX_VALUE;
        for (int p = 0; p < 6; p++) {
            Map<Integer, Integer> groups = new HashMap<>();
            for (int r : fitting) {
                groups.merge(rows.get(r)[p], 1, Integer::sum);
            }
            int most = groups.values().stream().max(Integer::compare).get();
            if (most < left) {
                left = most;
                whom = p;
            }
        }
        return what == 0 ? whom : what == 1 ? left : NONE;
    }

    int judge(int reading) {
        if (reading < 0 || reading > 131) {
            return refuse(-1);
        }
        if (state.judges.size() == 5) {
            return refuse(-5);
        }
        state.judges.add(reading);
        return fine(state.judges.size());
    }

    int ruled(int person) {
        if (!isPerson(person)) {
            return NONE;
        }
        List<int[]> rows = rows();
        Map<Integer, Integer> votes = new HashMap<>();
        for (int r : state.judges) {
            if (r < rows.size()) {
                votes.merge(rows.get(r)[person], 1, Integer::sum);
            }
        }
        for (Map.Entry<Integer, Integer> e : votes.entrySet()) {
            if (e.getValue() * 2 > state.judges.size()) {
                return e.getKey();
            }
        }
        return NONE;
    }

    int forget() {
        int were = state.told.size() + state.judges.size();
        state.told.clear();
        state.judges.clear();
        return were;
    }

    /** Mark by mark; at each one the part that slips and the part that does not are cut. */
    long few(int k, int n) {
        if (k < 1 || k > 20 || n < 0 || n > 99) {
            return NONE;
        }
        long[] chance = {1_000_000_000_000L};
        for (int m = 0; m < n; m++) {
            long[] then = new long[chance.length + 1];
            for (int i = 0; i < chance.length; i++) {
                then[i] += chance[i] * (10 - state.terms[3]) / 10;
                then[i + 1] += chance[i] * state.terms[3] / 10;
            }
            chance = then;
        }
        return Arrays.stream(chance).limit(k).sum();
    }

    int years(int seed, int n) {
        if (seed < 0 || seed > 1_000_000 || n < 1 || n > 60) {
            return refuse(-1);
        }
        long s = seed;
        boolean[] living = state.living.clone();
        int year = state.terms[0];
        int answer = 0;
        for (int i = 0; i < n; i++) {
            if (year == 999) {
                break;
            }
            s = (s * 1103 + 12345) % 1_000_003;
            int person = (int) (s % 6);
            s = (s * 1103 + 12345) % 1_000_003;
            if (s % 3 == 0) {
                living[person] = false;
            } else if (s % 3 == 1) {
                living[person] = true;
            }
            year++;
            if (unlike(rows(marks(), inForce(), year, living)) <= 1) {
                answer++;
            }
        }
        drawn = living;
        return fine(answer);
    }

    int drawn(int person) {
        return drawn == null || !isPerson(person) ? NONE : drawn[person] ? 1 : 0;
    }

    int image(int k) {
        if (k != 0 && k != 1) {
            return refuse(-1);
        }
        images[k] = state.copy();
        return fine(0);
    }

    int back(int k) {
        if (k != 0 && k != 1) {
            return refuse(-1);
        }
        if (images[k] == null) {
            return refuse(-2);
        }
        state = images[k].copy();
        deeds.clear();
        return fine(0);
    }

    int count(int what) {
        if (what >= 7 && what <= 11) {
            return refusals.getOrDefault(new int[] {-1, -2, -3, -5, -6}[what - 7], 0);
        }
        switch (what) {
            case 0:
                return state.names.size();
            case 1:
                int living = 0;
                for (boolean l : state.living) {
                    living += l ? 1 : 0;
                }
                return living;
            case 2:
                return state.told.size();
            case 3:
                return state.judges.size();
            case 4:
                return state.laws.size();
            case 5:
                return deeds.size();
            case 6:
                return tape.length();
            case 12:
                return state.force;
            case 13:
            case 14:
            case 15:
            case 16:
                return state.terms[what - 13];
            default:
                return NONE;
        }
    }

    int status() {
        return status;
    }
}
