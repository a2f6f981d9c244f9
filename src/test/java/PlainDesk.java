import java.util.ArrayList;
import java.util.Comparator;
import java.util.HashMap;
import java.util.List;
import java.util.Map;
import java.util.NoSuchElementException;
import java.util.TreeMap;
import java.util.function.IntUnaryOperator;
import java.util.regex.Matcher;
import java.util.regex.Pattern;
import java.util.stream.IntStream;

/**
 * The document told over in the plainest way, with the whole Java library and no thought for speed: texts are trees that
 * are read by descent, cuts and weeks are looked for among all sets. ModelTest holds LivesAhead against it.
 */
final class PlainDesk {
    private static final int UNKNOWN = Integer.MIN_VALUE;

    record Telling(int person, int kind, int value, boolean sealed, int day) { }

    static final class Life {
        int name;
        int born;
        int worth;
        int writer;
        int died = -2;
        boolean peril;
        long embargo;
        List<Para> story = new ArrayList<>();
        Map<Integer, Integer> checked = new HashMap<>();
    }

    static final class Para {
        Node text;
        int worth;
        int lean;
    }

    record Heard(int person, int name, int day, int source, long at, List<int[]> facts) { }

    static final class Shot {
        int person;
        int worth;
        int from;
        int to;
        int times;
        int used;
    }

    static final class Word {
        int person;
        long due;
        int bytes;
        boolean inTime;
    }

    static final class Print {
        int person;
        int day;
        int bytes;
        int paragraphs;
        int picture = -2;
        int quotes;
        Map<Integer, Integer> said = new TreeMap<>();
        Map<Integer, Integer> corrected = new TreeMap<>();
        int corrections;
    }

    static final class Fault extends RuntimeException {
        private static final long serialVersionUID = 1;
        final int number;
        final int place;

        Fault(int number, int place) {
            this.number = number;
            this.place = place;
        }
    }

    // ---- trees of texts

    interface Node {
        /** What it prints, or "1" and "" for a test. */
        String said(Sight sight);

        default int pieces() {
            return 0;
        }

        int kinds();
    }

    /** What is known when something is printed. */
    interface Sight {
        int name(String name);

        boolean has(int kind);

        boolean stale(int kind);

        boolean dead();
    }

    record Plain(String bytes) implements Node {
        public String said(Sight s) {
            return bytes;
        }

        public int pieces() {
            return 1;
        }

        public int kinds() {
            return 0;
        }
    }

    record Row(List<Node> parts) implements Node {
        public String said(Sight s) {
            StringBuilder b = new StringBuilder();
            parts.forEach(p -> b.append(p.said(s)));
            return b.toString();
        }

        public int pieces() {
            return parts.stream().mapToInt(Node::pieces).sum();
        }

        public int kinds() {
            return parts.stream().mapToInt(Node::kinds).reduce(0, (a, b) -> a | b);
        }
    }

    record Braced(Sum sum) implements Node {
        public String said(Sight s) {
            return String.valueOf(sum.value(s));
        }

        public int pieces() {
            return 1;
        }

        public int kinds() {
            return sum.kinds();
        }
    }

    record Choice(Node test, Node then, Node otherwise) implements Node {
        public String said(Sight s) {
            return !test.said(s).isEmpty() ? then.said(s) : otherwise == null ? "" : otherwise.said(s);
        }

        public int pieces() {
            return 1 + then.pieces() + (otherwise == null ? 0 : otherwise.pieces());
        }

        public int kinds() {
            return test.kinds() | then.kinds() | (otherwise == null ? 0 : otherwise.kinds());
        }
    }

    record Sum(List<String> terms, List<Boolean> minus) {
        int value(Sight s) {
            int sum = 0;
            for (int i = 0; i < terms.size(); i++) {
                String t = terms.get(i);
                int v = Character.isDigit(t.charAt(0)) ? Integer.parseInt(t) : s.name(t);
                sum += minus.get(i) ? -v : v;
            }
            return sum;
        }

        int kinds() {
            int bits = 0;
            for (String t : terms) {
                if (t.matches("k[0-9]")) {
                    bits |= 1 << t.charAt(1) - '0';
                }
            }
            return bits;
        }
    }

    record Compared(Sum left, char by, Sum right) implements Node {
        public String said(Sight s) {
            int c = Integer.compare(left.value(s), right.value(s));
            boolean is = by == '<' ? c < 0 : by == '>' ? c > 0 : c == 0;
            return is ? "1" : "";
        }

        public int kinds() {
            return left.kinds() | right.kinds();
        }
    }

    record Asked(String word, int kind) implements Node {
        public String said(Sight s) {
            boolean is = word.equals("dead") ? s.dead() : word.equals("has") ? s.has(kind) : s.stale(kind);
            return is ? "1" : "";
        }

        public int kinds() {
            return word.equals("dead") ? 0 : 1 << kind;
        }
    }

    record Not(Node of) implements Node {
        public String said(Sight s) {
            return of.said(s).isEmpty() ? "1" : "";
        }

        public int kinds() {
            return of.kinds();
        }
    }

    record Joined(boolean all, List<Node> ones) implements Node {
        public String said(Sight s) {
            boolean is = all ? ones.stream().allMatch(o -> !o.said(s).isEmpty())
                : ones.stream().anyMatch(o -> !o.said(s).isEmpty());
            return is ? "1" : "";
        }

        public int kinds() {
            return ones.stream().mapToInt(Node::kinds).reduce(0, (a, b) -> a | b);
        }
    }

    // ---- reading by descent

    static final class Descent {
        private static final List<String> RESERVED = List.of("if", "and", "or", "not", "has", "stale", "dead");
        private static final List<String> STORY = List.of("age", "born", "year", "worth");
        private static final List<String> RULE = List.of("kin", "doctor", "office", "agency", "rival", "sources",
            "hours", "age", "worth");
        final String text;
        final boolean rule;
        int at = 0;
        int pieces = 0;
        int terms = 0;
        String token;
        int tokenAt;

        Descent(String text, boolean rule) {
            this.text = text;
            this.rule = rule;
        }

        Node story() {
            Node n = row(0);
            if (at < text.length()) {
                throw new Fault(1, at);
            }
            return n;
        }

        Node truth() {
            next();
            Node n = test();
            if (!token.isEmpty()) {
                throw new Fault(1, tokenAt);
            }
            return n;
        }

        private Node row(int depth) {
            List<Node> parts = new ArrayList<>();
            while (at < text.length() && text.charAt(at) != '}' && text.charAt(at) != '|') {
                char c = text.charAt(at);
                if (c < 32 || c > 126) {
                    throw new Fault(1, at);
                }
                if (++pieces > 60) {
                    throw new Fault(3, at);
                }
                parts.add(c == '{' ? braces(depth) : plain());
            }
            if (parts.isEmpty()) {
                throw new Fault(1, at);
            }
            return new Row(parts);
        }

        private Node plain() {
            int from = at;
            while (at < text.length() && "{}|".indexOf(text.charAt(at)) < 0) {
                if (text.charAt(at) < 32 || text.charAt(at) > 126) {
                    throw new Fault(1, at);
                }
                at++;
            }
            return new Plain(text.substring(from, at));
        }

        private Node braces(int depth) {
            int open = at++;
            next();
            if (!token.equals("if")) {
                Sum sum = sum();
                want("}");
                return new Braced(sum);
            }
            if (depth == 5) {
                throw new Fault(3, open);
            }
            next();
            Node test = test();
            want(":");
            Node then = row(depth + 1);
            Node otherwise = null;
            if (at < text.length() && text.charAt(at) == '|') {
                at++;
                otherwise = row(depth + 1);
            }
            if (at >= text.length() || text.charAt(at) != '}') {
                throw new Fault(1, at);
            }
            at++;
            return new Choice(test, then, otherwise);
        }

        /** The token is this one; what stands behind it is not looked at, since it may be plain. */
        private void want(String sign) {
            if (!token.equals(sign)) {
                throw new Fault(1, tokenAt);
            }
        }

        private Node test() {
            List<Node> ones = new ArrayList<>();
            ones.add(one());
            String by = token;
            while (token.equals("and") || token.equals("or")) {
                if (!token.equals(by)) {
                    throw new Fault(1, tokenAt);
                }
                next();
                ones.add(one());
            }
            return new Joined(!by.equals("or"), ones);
        }

        private Node one() {
            if (token.equals("not")) {
                next();
                return new Not(one());
            }
            if (!rule && token.equals("dead")) {
                next();
                return new Asked("dead", 0);
            }
            if (!rule && (token.equals("has") || token.equals("stale"))) {
                String word = token;
                next();
                if (!token.matches("k[0-9]")) {
                    throw new Fault(1, tokenAt);
                }
                int kind = token.charAt(1) - '0';
                next();
                return new Asked(word, kind);
            }
            Sum left = sum();
            if (!token.matches("[<>=]")) {
                throw new Fault(1, tokenAt);
            }
            char by = token.charAt(0);
            next();
            return new Compared(left, by, sum());
        }

        private Sum sum() {
            List<String> all = new ArrayList<>();
            List<Boolean> minus = new ArrayList<>();
            boolean less = false;
            while (true) {
                all.add(term());
                minus.add(less);
                next();
                if (!token.equals("+") && !token.equals("-")) {
                    return new Sum(all, minus);
                }
                less = token.equals("-");
                next();
            }
        }

        private String term() {
            boolean whole = token.matches("[0-9]+");
            boolean word = token.matches("[a-z]+[0-9]?");
            if (!whole && (!word || RESERVED.contains(token))) {
                throw new Fault(1, tokenAt);
            }
            boolean name = rule ? RULE.contains(token) : STORY.contains(token) || token.matches("k[0-9]");
            if (!whole && !name) {
                throw new Fault(2, tokenAt);
            }
            if (++terms > 30) {
                throw new Fault(3, tokenAt);
            }
            return token;
        }

        /** The next token; empty at the end. A } or : is the last one that is taken ahead of plain bytes. */
        private void next() {
            while (at < text.length() && text.charAt(at) == ' ') {
                at++;
            }
            tokenAt = at;
            String rest = text.substring(at);
            if (rest.isEmpty()) {
                token = "";
                return;
            }
            Matcher m = Pattern.compile("^([a-z]+)([0-9]?)|^[0-9]+|^[<>=+():{}-]")
                .matcher(rest);
            if (!m.find()) {
                throw new Fault(1, at);
            }
            token = m.group();
            boolean tooLong = m.group(1) != null ? m.group(1).length() > 8
                : Character.isDigit(token.charAt(0)) && token.length() > 4;
            if (tooLong) {
                throw new Fault(1, at);
            }
            at += token.length();
        }
    }

    // ---- the desk

    private final List<Integer> writerHours = new ArrayList<>();
    private final List<Boolean> writerLives = new ArrayList<>();
    private final List<Life> lives = new ArrayList<>();
    private final List<Telling> tellings = new ArrayList<>();
    private final List<Node> rules = new ArrayList<>();
    private final List<Heard> heard = new ArrayList<>();
    private final List<Integer> withdrawn = new ArrayList<>();
    private final List<Shot> shots = new ArrayList<>();
    private final List<Word> words = new ArrayList<>();
    private final List<Print> prints = new ArrayList<>();
    private final int[] keep = IntStream.generate(() -> 365).limit(10).toArray();
    private String tape = "";
    private String out = "";
    private long clock = 0;
    private int trouble = 0;
    private int fault = 0;
    private int where = -1;
    private int cutOf = -1;
    private int cutLong = -1;
    private List<Integer> weekOf = new ArrayList<>();
    private int takes = -1;

    private int no(int why) {
        trouble = why;
        return -1;
    }

    private int yes(int answer) {
        trouble = 0;
        return answer;
    }

    private int day() {
        return (int) (clock / 1440);
    }

    private boolean lifeAt(int p) {
        return p >= 0 && p < lives.size();
    }

    private boolean writerAt(int w) {
        return w >= 0 && w < writerLives.size() && writerLives.get(w);
    }

    private static boolean in(int v, int a, int b) {
        return a <= v && v <= b;
    }

    private Telling asKnown(int person, int kind, int day) {
        Telling best = null;
        for (Telling t : tellings) {
            if (t.person == person && t.kind == kind && t.day <= day) {
                best = t;
            }
        }
        return best;
    }

    private boolean stale(int person, int kind, int day) {
        return asKnown(person, kind, day()) != null && day - lives.get(person).checked.get(kind) > keep[kind];
    }

    private int staleBits(int person, int day) {
        return IntStream.range(0, 10).filter(k -> stale(person, k, day)).map(k -> 1 << k).sum();
    }

    private int knownBits(int person) {
        return IntStream.range(0, 10).filter(k -> asKnown(person, k, day()) != null).map(k -> 1 << k).sum();
    }

    private int age(int person) {
        Life l = lives.get(person);
        return Math.floorDiv(l.born + (l.died >= 0 ? l.died : day()), 365);
    }

    private boolean tellable(int person, int kind) {
        Telling t = asKnown(person, kind, day());
        return t != null && (!t.sealed || lives.get(person).died >= 0);
    }

    private Sight sightOf(int person) {
        Life l = lives.get(person);
        return new Sight() {
            public int name(String n) {
                switch (n) {
                    case "age": return age(person);
                    case "born": return (int) (100 - Math.ceil(l.born / 365.0));
                    case "year": return 100 + day() / 365;
                    case "worth": return l.worth;
                    default:
                        int kind = n.charAt(1) - '0';
                        return tellable(person, kind) ? asKnown(person, kind, day()).value : 0;
                }
            }

            public boolean has(int kind) {
                return tellable(person, kind);
            }

            public boolean stale(int kind) {
                return PlainDesk.this.stale(person, kind, day());
            }

            public boolean dead() {
                return l.died >= 0;
            }
        };
    }

    private boolean marked(int person, Para p) {
        return (p.text.kinds() & (staleBits(person, day()) | ~knownBits(person))) != 0;
    }

    /** The best of all sets: most gain, least cost, then the one that has the least place where they first differ. */
    private static int best(IntStream sets, IntUnaryOperator gain, IntUnaryOperator cost) {
        Comparator<Integer> order = Comparator.<Integer>comparingInt(set -> -gain.applyAsInt(set))
            .thenComparingInt(cost::applyAsInt)
            .thenComparing((a, b) -> a.equals(b) ? 0 : (a & Integer.lowestOneBit(a ^ b)) != 0 ? -1 : 1);
        return sets.boxed().min(order).orElse(0);
    }

    private int[] cutTo(int person, int length, boolean without) {
        List<Para> story = lives.get(person).story;
        int n = story.size();
        int[] longs = story.stream().mapToInt(p -> p.text.said(sightOf(person)).length()).toArray();
        boolean[] gone = new boolean[n];
        for (int i = 0; i < n; i++) {
            gone[i] = without && marked(person, story.get(i));
        }
        IntUnaryOperator gain = set -> IntStream.range(0, n).filter(i -> (set >> i & 1) != 0)
            .map(i -> story.get(i).worth).sum();
        IntUnaryOperator cost = set -> IntStream.range(0, n).filter(i -> (set >> i & 1) != 0)
            .map(i -> longs[i] + 1).sum() - (set == 0 ? 0 : 1);
        IntStream sets = IntStream.range(0, 1 << n).filter(set -> IntStream.range(0, n)
            .filter(i -> (set >> i & 1) != 0)
            .allMatch(i -> !gone[i] && (story.get(i).lean < 0 || (set >> story.get(i).lean & 1) != 0)))
            .filter(set -> cost.applyAsInt(set) <= length);
        int set = best(sets, gain, cost);
        return new int[] {gain.applyAsInt(set), set, cost.applyAsInt(set)};
    }

    public int writer(int hours) {
        if (!in(hours, 0, 60)) {
            return no(2);
        }
        if (writerHours.size() == 6) {
            return no(3);
        }
        writerHours.add(hours);
        writerLives.add(true);
        return yes(writerHours.size() - 1);
    }

    public boolean hours(int writer, int hours) {
        if (!writerAt(writer)) {
            return no(1) == 0;
        }
        if (!in(hours, 0, 60)) {
            return no(2) == 0;
        }
        writerHours.set(writer, hours);
        return yes(1) == 1;
    }

    public int bury(int writer) {
        if (!writerAt(writer)) {
            return no(1);
        }
        int heir = IntStream.range(0, writerLives.size()).filter(w -> w != writer && writerLives.get(w)).boxed()
            .min(Comparator.comparingLong(w -> lives.stream().filter(l -> l.writer == w).count())).orElse(-1);
        if (heir < 0) {
            return no(5);
        }
        writerLives.set(writer, false);
        int n = 0;
        for (Life l : lives) {
            if (l.writer == writer) {
                l.writer = heir;
                n++;
            }
        }
        return yes(n);
    }

    public int person(int name, int born, int worth, int writer) {
        if (!writerAt(writer)) {
            return no(1);
        }
        if (!in(name, 0, 99) || !in(born, 1, 36500) || !in(worth, 1, 100)) {
            return no(2);
        }
        if (lives.size() == 30) {
            return no(3);
        }
        Life l = new Life();
        l.name = name;
        l.born = born;
        l.worth = worth;
        l.writer = writer;
        lives.add(l);
        return yes(lives.size() - 1);
    }

    public int about(int person, int what) {
        if (!lifeAt(person) || !in(what, 0, 9)) {
            return -1;
        }
        Life l = lives.get(person);
        int[] all = {l.name, age(person), l.worth, l.writer, l.died >= 0 ? 1 : 0, l.died, l.peril ? 1 : 0,
            l.story.size(), Integer.bitCount(knownBits(person)), Integer.bitCount(staleBits(person, day()))};
        return all[what];
    }

    public boolean peril(int person, boolean is) {
        if (!lifeAt(person)) {
            return no(1) == 0;
        }
        lives.get(person).peril = is;
        return yes(1) == 1;
    }

    public boolean keeps(int kind, int days) {
        if (!in(kind, 0, 9) || !in(days, 1, 3650)) {
            return no(2) == 0;
        }
        keep[kind] = days;
        return yes(1) == 1;
    }

    private int told(int person, int kind) {
        return (int) tellings.stream().filter(t -> t.person == person && t.kind == kind).count();
    }

    public int fact(int person, int kind, int value, boolean sealed) {
        if (!lifeAt(person)) {
            return no(1);
        }
        if (!in(kind, 0, 9) || !in(value, -9999, 9999)) {
            return no(2);
        }
        if (tellings.size() == 240) {
            return no(3);
        }
        tellings.add(new Telling(person, kind, value, sealed, day()));
        lives.get(person).checked.put(kind, day());
        return yes(told(person, kind));
    }

    public boolean check(int person, int kind) {
        if (!lifeAt(person)) {
            return no(1) == 0;
        }
        if (!in(kind, 0, 9)) {
            return no(2) == 0;
        }
        if (told(person, kind) == 0) {
            return no(1) == 0;
        }
        lives.get(person).checked.put(kind, day());
        return yes(1) == 1;
    }

    public int known(int person, int kind, int what) {
        Telling t = asKnown(person, kind, day());
        if (t == null) {
            return UNKNOWN;
        }
        switch (what) {
            case 0: return t.value;
            case 1: return t.sealed ? 1 : 0;
            case 2: return t.day;
            case 3: return lives.get(person).checked.get(kind);
            case 4: return stale(person, kind, day()) ? 1 : 0;
            case 5: return told(person, kind);
            default: return -1;
        }
    }

    public int knownOn(int person, int kind, int day) {
        Telling t = in(day, 0, 3650) ? asKnown(person, kind, day) : null;
        return t == null ? UNKNOWN : t.value;
    }

    public int ages(int person, int day) {
        if (!lifeAt(person)) {
            return no(1);
        }
        return in(day, day(), 3650) ? yes(staleBits(person, day)) : no(2);
    }

    public int alike(int person) {
        return !lifeAt(person) ? -1
            : (int) lives.stream().filter(l -> l.name == lives.get(person).name).count() - 1;
    }

    public int apart(int one, int other) {
        if (!lifeAt(one) || !lifeAt(other)) {
            return -1;
        }
        return IntStream.range(0, 10).filter(k -> known(one, k, 0) != UNKNOWN && known(other, k, 0) != UNKNOWN)
            .filter(k -> known(one, k, 0) != known(other, k, 0)).findFirst().orElse(-2);
    }

    public int feed(int a, int b, int c, int d, int e) {
        if (tape.length() > 380) {
            return -1;
        }
        for (int number : new int[] {a, b, c, d, e}) {
            for (byte one : java.nio.ByteBuffer.allocate(4).putInt(number).array()) {
                tape += (char) (one & 255);
            }
        }
        return tape.length();
    }

    /** What stands on the tape, or null with the fault told. */
    private Node read(int n, boolean rule) {
        String text = tape.substring(0, n);
        tape = "";
        fault = 0;
        try {
            Descent d = new Descent(text, rule);
            return rule ? d.truth() : d.story();
        } catch (Fault f) {
            fault = f.number;
            where = f.place;
            return null;
        }
    }

    public int paragraph(int person, int worth, int lean, int n) {
        if (!lifeAt(person)) {
            return no(1);
        }
        List<Para> story = lives.get(person).story;
        if (!in(worth, 0, 999) || !in(lean, -1, story.size() - 1) || !in(n, 0, tape.length())) {
            return no(2);
        }
        Node text = read(n, false);
        if (text == null) {
            return no(4);
        }
        if (story.size() == 14 || count(4) == 150) {
            return no(3);
        }
        Para p = new Para();
        p.text = text;
        p.worth = worth;
        p.lean = lean;
        story.add(p);
        return yes(story.size() - 1);
    }

    private boolean paraAt(int person, int place) {
        return lifeAt(person) && place >= 0 && place < lives.get(person).story.size();
    }

    public boolean rewrite(int person, int place, int n) {
        if (!paraAt(person, place)) {
            return no(1) == 0;
        }
        if (!in(n, 0, tape.length())) {
            return no(2) == 0;
        }
        Node text = read(n, false);
        if (text == null) {
            return no(4) == 0;
        }
        lives.get(person).story.get(place).text = text;
        return yes(1) == 1;
    }

    public int fault() {
        return fault;
    }

    public int where() {
        return trouble == 4 ? where : -1;
    }

    public int paragraphOf(int person, int place, int what) {
        if (!paraAt(person, place) || !in(what, 0, 5)) {
            return -1;
        }
        Para p = lives.get(person).story.get(place);
        int[] all = {p.worth, p.lean, p.text.said(sightOf(person)).length(), marked(person, p) ? 1 : 0,
            p.text.kinds(), p.text.pieces()};
        return all[what];
    }

    public int print(int person, int place) {
        if (!paraAt(person, place)) {
            return no(1);
        }
        out = lives.get(person).story.get(place).text.said(sightOf(person));
        return yes(out.length());
    }

    public int out(int i) {
        if (i < 0 || i >= out.length()) {
            throw new NoSuchElementException();
        }
        return out.charAt(i);
    }

    public int cut(int person, int length, boolean withoutMarked) {
        if (!lifeAt(person)) {
            return no(1);
        }
        if (!in(length, 0, 4000)) {
            return no(2);
        }
        int[] cut = cutTo(person, length, withoutMarked);
        cutOf = cut[1];
        cutLong = cut[2];
        return yes(cut[0]);
    }

    public int cutOf() {
        return cutOf;
    }

    public int cutLong() {
        return cutLong;
    }

    public int rule(int n) {
        if (!in(n, 0, tape.length())) {
            return no(2);
        }
        Node text = read(n, true);
        if (text == null) {
            return no(4);
        }
        if (rules.size() == 12) {
            return no(3);
        }
        rules.add(text);
        return yes(rules.size());
    }

    private int hear(Heard h) {
        if (heard.size() == 120) {
            return no(3);
        }
        heard.add(h);
        return yes(heard.size() - 1);
    }

    public int report(int person, int day, int source) {
        if (!lifeAt(person)) {
            return no(1);
        }
        if (!in(day, 0, day()) || !in(source, 0, 4)) {
            return no(2);
        }
        return hear(new Heard(person, -1, day, source, clock, List.of()));
    }

    public int rumour(int name, int day, int source, int kind, int value, int kind2, int value2, int kind3, int value3) {
        List<int[]> facts = new ArrayList<>();
        for (int[] f : new int[][] {{kind, value}, {kind2, value2}, {kind3, value3}}) {
            if (f[0] == -1) {
                break;
            }
            facts.add(f);
        }
        boolean good = facts.stream().allMatch(f -> in(f[0], 0, 9) && in(f[1], -9999, 9999));
        if (!good || !in(name, 0, 99) || !in(day, 0, day()) || !in(source, 0, 4)) {
            return no(2);
        }
        return hear(new Heard(-1, name, day, source, clock, facts));
    }

    public int fits(int report) {
        if (!in(report, 0, heard.size() - 1)) {
            return -1;
        }
        Heard h = heard.get(report);
        if (h.person >= 0) {
            return h.person;
        }
        int[] fit = IntStream.range(0, lives.size()).filter(p -> lives.get(p).name == h.name)
            .filter(p -> h.facts.stream().noneMatch(f -> known(p, f[0], 0) != UNKNOWN && known(p, f[0], 0) != f[1]))
            .toArray();
        return fit.length == 0 ? -2 : fit.length > 1 ? -3 : fit[0];
    }

    public boolean withdraw(int report) {
        if (!in(report, 0, heard.size() - 1)) {
            return no(1) == 0;
        }
        if (withdrawn.contains(report)) {
            return no(5) == 0;
        }
        withdrawn.add(report);
        return yes(1) == 1;
    }

    private List<Heard> of(int person) {
        return IntStream.range(0, heard.size()).filter(r -> !withdrawn.contains(r) && fits(r) == person)
            .mapToObj(heard::get).toList();
    }

    private boolean proven(int person) {
        List<Heard> all = of(person);
        Sight sight = new Sight() {
            public int name(String n) {
                int source = List.of("kin", "doctor", "office", "agency", "rival").indexOf(n);
                if (source >= 0) {
                    return (int) all.stream().filter(h -> h.source == source).count();
                }
                switch (n) {
                    case "sources": return (int) all.stream().map(Heard::source).distinct().count();
                    case "hours": return (int) (clock - all.stream().mapToLong(Heard::at).min().orElse(clock)) / 60;
                    case "age": return age(person);
                    default: return lives.get(person).worth;
                }
            }

            public boolean has(int kind) {
                return false;
            }

            public boolean stale(int kind) {
                return false;
            }

            public boolean dead() {
                return false;
            }
        };
        return !all.isEmpty() && rules.stream().anyMatch(r -> !r.said(sight).isEmpty());
    }

    public int may(int person) {
        if (!lifeAt(person) || lives.get(person).died >= 0) {
            return no(1);
        }
        return yes(proven(person) ? 1 : 0);
    }

    public int tell(int person) {
        if (!lifeAt(person)) {
            return no(1);
        }
        if (lives.get(person).died >= 0 || !proven(person)) {
            return no(5);
        }
        TreeMap<Integer, Integer> said = new TreeMap<>();
        of(person).forEach(h -> said.merge(h.day, 1, Integer::sum));
        int most = said.values().stream().max(Integer::compare).orElse(0);
        int day = said.keySet().stream().filter(d -> said.get(d) == most).findFirst().orElse(-2);
        lives.get(person).died = day;
        return yes(day);
    }

    public int picture(int person, int worth, int from, int to, int times) {
        if (!lifeAt(person)) {
            return no(1);
        }
        if (!in(worth, 1, 100) || !in(from, 0, 3650) || !in(to, 0, 3650) || to < from || !in(times, 1, 99)) {
            return no(2);
        }
        if (shots.size() == 40) {
            return no(3);
        }
        Shot s = new Shot();
        s.person = person;
        s.worth = worth;
        s.from = from;
        s.to = to;
        s.times = times;
        shots.add(s);
        return yes(shots.size() - 1);
    }

    public int used(int picture) {
        return in(picture, 0, shots.size() - 1) ? shots.get(picture).used : -1;
    }

    public int ask(int person, int minutes) {
        if (!lifeAt(person)) {
            return no(1);
        }
        if (!in(minutes, 1, 1440)) {
            return no(2);
        }
        if (words.size() == 60) {
            return no(3);
        }
        Word w = new Word();
        w.person = person;
        w.due = clock + minutes;
        words.add(w);
        return yes(words.size() - 1);
    }

    public int answer(int quote, int bytes) {
        if (!in(quote, 0, words.size() - 1)) {
            return no(1);
        }
        if (!in(bytes, 1, 400)) {
            return no(2);
        }
        Word w = words.get(quote);
        if (w.bytes != 0) {
            return no(5);
        }
        w.bytes = bytes;
        w.inTime = clock <= w.due;
        return yes(w.inTime ? 1 : 0);
    }

    public boolean embargo(int person, int day, int minute) {
        if (!lifeAt(person)) {
            return no(1) == 0;
        }
        if (!in(day, 0, 3650) || !in(minute, 0, 1439)) {
            return no(2) == 0;
        }
        lives.get(person).embargo = day * 1440L + minute;
        return yes(1) == 1;
    }

    public int edition(int person, int length, boolean withoutMarked) {
        if (!lifeAt(person)) {
            return no(1);
        }
        if (!in(length, 1, 4000)) {
            return no(2);
        }
        Life l = lives.get(person);
        if (l.died < 0 || clock < l.embargo) {
            return no(5);
        }
        if (prints.size() == 80) {
            return no(3);
        }
        Print e = new Print();
        e.person = person;
        e.day = day();
        int left = length;
        int shot = IntStream.range(0, shots.size()).boxed().filter(i -> shots.get(i).person == person)
            .filter(i -> in(day(), shots.get(i).from, shots.get(i).to) && shots.get(i).used < shots.get(i).times)
            .max(Comparator.<Integer>comparingInt(i -> shots.get(i).worth).thenComparingInt(i -> -i)).orElse(-2);
        if (shot >= 0 && left >= 200) {
            e.picture = shot;
            shots.get(shot).used++;
            left -= 200;
        }
        for (Word w : words) {
            if (w.person == person && w.inTime) {
                if (w.bytes > left) {
                    break;
                }
                left -= w.bytes;
                e.quotes++;
            }
        }
        int[] cut = cutTo(person, left, withoutMarked);
        e.paragraphs = cut[1];
        e.bytes = length - left + cut[2];
        for (int i = 0; i < l.story.size(); i++) {
            for (int k = 0; k < 10; k++) {
                if ((cut[1] >> i & 1) != 0 && (l.story.get(i).text.kinds() >> k & 1) != 0 && tellable(person, k)) {
                    e.said.put(k, known(person, k, 0));
                }
            }
        }
        prints.add(e);
        return yes(prints.size() - 1);
    }

    public int editionOf(int edition, int what) {
        if (!in(edition, 0, prints.size() - 1) || !in(what, 0, 7)) {
            return -1;
        }
        Print e = prints.get(edition);
        int[] all = {e.person, e.day, e.bytes, e.paragraphs, e.picture, e.quotes,
            e.said.keySet().stream().mapToInt(k -> 1 << k).sum(), e.corrections};
        return all[what];
    }

    private boolean isWrong(Print e, int kind) {
        return e.said.containsKey(kind)
            && known(e.person, kind, 0) != e.corrected.getOrDefault(kind, e.said.get(kind));
    }

    public int wrong(int edition) {
        if (!in(edition, 0, prints.size() - 1)) {
            return -1;
        }
        return IntStream.range(0, 10).filter(k -> isWrong(prints.get(edition), k)).map(k -> 1 << k).sum();
    }

    public boolean correct(int edition, int kind) {
        if (!in(edition, 0, prints.size() - 1) || !prints.get(edition).said.containsKey(kind)) {
            return no(1) == 0;
        }
        Print e = prints.get(edition);
        if (!isWrong(e, kind)) {
            return no(5) == 0;
        }
        e.corrected.put(kind, known(e.person, kind, 0));
        e.corrections++;
        return yes(1) == 1;
    }

    public int said(int edition, int kind) {
        return !in(edition, 0, prints.size() - 1) ? UNKNOWN : prints.get(edition).said.getOrDefault(kind, UNKNOWN);
    }

    private int gain(int person) {
        int age = age(person);
        int chance = age < 40 ? 1 : age < 60 ? 3 : age < 75 ? 10 : age < 85 ? 30 : 80;
        Life l = lives.get(person);
        return chance * (l.peril ? 5 : 1) * l.worth * Integer.bitCount(staleBits(person, day()));
    }

    public int week(int writer) {
        if (!writerAt(writer)) {
            return no(1);
        }
        List<Integer> stories = IntStream.range(0, lives.size()).boxed()
            .filter(p -> lives.get(p).writer == writer && lives.get(p).died < 0 && staleBits(p, day()) != 0)
            .sorted(Comparator.<Integer>comparingInt(p -> -gain(p)).thenComparingInt(p -> p)).limit(12)
            .sorted().toList();
        int n = stories.size();
        int[] gains = stories.stream().mapToInt(this::gain).toArray();
        int[] hours = stories.stream()
            .mapToInt(p -> 1 + (int) Math.ceil(Integer.bitCount(staleBits(p, day())) / 3.0)).toArray();
        IntUnaryOperator gain = set -> IntStream.range(0, n).filter(i -> (set >> i & 1) != 0)
            .map(i -> gains[i]).sum();
        IntUnaryOperator cost = set -> IntStream.range(0, n).filter(i -> (set >> i & 1) != 0)
            .map(i -> hours[i]).sum();
        int set = best(IntStream.range(0, 1 << n).filter(s -> cost.applyAsInt(s) <= writerHours.get(writer)),
            gain, cost);
        weekOf = IntStream.range(0, n).filter(i -> (set >> i & 1) != 0).mapToObj(stories::get).toList();
        takes = cost.applyAsInt(set);
        return yes(gain.applyAsInt(set));
    }

    public int fresh(int i) {
        return in(i, 0, weekOf.size() - 1) ? weekOf.get(i) : -1;
    }

    public int takes() {
        return takes;
    }

    public int freshen() {
        int n = 0;
        for (int p : weekOf) {
            for (int k = 0; k < 10; k++) {
                if (stale(p, k, day())) {
                    lives.get(p).checked.put(k, day());
                    n++;
                }
            }
        }
        return n;
    }

    public int pass(int minutes) {
        if (!in(minutes, 1, 100000) || clock + minutes > 3650 * 1440 + 1439) {
            return no(2);
        }
        clock += minutes;
        return yes(day());
    }

    public int count(int what) {
        switch (what) {
            case 0: return lives.size();
            case 1: return (int) lives.stream().filter(l -> l.died >= 0).count();
            case 2: return (int) writerLives.stream().filter(w -> w).count();
            case 3: return tellings.size();
            case 4: return lives.stream().mapToInt(l -> l.story.size()).sum();
            case 5: return heard.size();
            case 6: return rules.size();
            case 7: return shots.size();
            case 8: return words.size();
            case 9: return prints.size();
            case 10: return day();
            case 11: return (int) (clock % 1440);
            case 12: return tape.length();
            default: return -1;
        }
    }

    public int trouble() {
        return trouble;
    }
}
