import java.util.ArrayList;
import java.util.Arrays;
import java.util.List;
import java.util.Map;
import java.util.TreeMap;
import java.util.function.ToLongFunction;

/**
 * The document's words once more, as slowly and plainly as they can be said, to be compared with BoyBishop.
 * It shares no code with it: texts are cut into tokens first, rules are trees of functions, rounds are tried in every order.
 */
final class Model {
    @SuppressWarnings("serial")
    static final class Fault extends Exception {
        final int number;
        Fault(int place, int kind) { number = 1 + 8 * place + kind; }
    }

    record Token(char kind, String text, int place) { }

    static final class Facts {
        int reign, hours;
        final List<int[]> boys = new ArrayList<>();
        final Map<Integer, Integer> likes = new TreeMap<>();
        final List<int[]> canons = new ArrayList<>();
        final List<int[]> farms = new ArrayList<>();
        final Map<Integer, Integer> ways = new TreeMap<>();
        final List<Integer> snow = new ArrayList<>();
    }

    static final class State implements Cloneable {
        int day, bishop = -1, first = -1, out, chest, shared;
        int[] voice, share, was, age, given, laid;
        boolean[] free;
        State copy() {
            State s = new State();
            s.day = day; s.bishop = bishop; s.first = first; s.out = out; s.chest = chest; s.shared = shared;
            s.voice = voice.clone(); s.share = share.clone(); s.was = was.clone();
            s.age = age.clone(); s.given = given.clone(); s.laid = laid.clone(); s.free = free.clone();
            return s;
        }
    }

    record Asked(int voter, int boy, Facts facts, State state) { }
    interface Test { boolean holds(Asked a); }
    record Clause(ToLongFunction<Asked> sum, Test test) { }
    record Note(int day, int boy) { }
    record Picture(Facts facts, State state, List<Note> notes, int x, int force) { }

    private byte[] tape = new byte[0];
    private Facts facts;
    private State state = begin(new Facts());
    private List<Note> notes = new ArrayList<>();
    private final List<List<Clause>> rules = new ArrayList<>();
    private int force = -1;
    private int x;
    private final List<State> acts = new ArrayList<>();
    private final Picture[] pictures = new Picture[4];

    // ---- texts

    private static List<Token> cut(byte[] tape) {
        List<Token> tokens = new ArrayList<>();
        String text = new String(tape, java.nio.charset.StandardCharsets.ISO_8859_1);
        java.util.regex.Matcher m = java.util.regex.Pattern
            .compile("( +)|([a-z]+)|([0-9]+)|(<=|>=)|(.)", java.util.regex.Pattern.DOTALL).matcher(text);
        while (m.find()) {
            if (m.group(1) != null) continue;
            char kind = m.group(2) != null ? 'w' : m.group(3) != null ? 'n' : 's';
            tokens.add(new Token(kind, m.group(), m.start()));
        }
        tokens.add(new Token('e', "", tape.length));
        return tokens;
    }

    private static final class Cursor {
        final List<Token> tokens;
        int at;
        Cursor(byte[] tape) { tokens = cut(tape); }
        Token peek() { return tokens.get(at); }
        Token next() { return tokens.get(at++); }
        boolean is(String text) { return peek().kind() != 'e' && peek().text().equals(text); }
        Fault stray() { return new Fault(peek().place(), 0); }
        void expect(String text) throws Fault { if (!is(text)) throw stray(); at++; }
        int number(int least, int most) throws Fault {
            if (peek().kind() != 'n') throw stray();
            Token t = next();
            if (t.text().length() > 5) throw new Fault(t.place(), 1);
            int n = Integer.parseInt(t.text());
            if (n < least || n > most) throw new Fault(t.place(), 1);
            return n;
        }
    }

    private static Facts readFacts(byte[] tape) throws Fault {
        Cursor c = new Cursor(tape);
        Facts f = new Facts();
        List<String> known = List.of("choir", "boy", "likes", "canon", "farm", "way", "snow");
        int clauses = 0;
        while (true) {
            Token head = c.peek();
            if (head.kind() != 'w' || !known.contains(head.text())) throw c.stray();
            String w = head.text();
            boolean tooMany = clauses == 40 || clauses == 0 && !w.equals("choir") || clauses > 0 && w.equals("choir")
                || w.equals("boy") && f.boys.size() == 6 || w.equals("canon") && f.canons.size() == 4
                || w.equals("farm") && f.farms.size() == 6;
            if (tooMany) throw new Fault(head.place(), 4);
            c.next();
            clauses++;
            switch (w) {
                case "choir" -> { f.reign = c.number(1, 40); f.hours = c.number(0, 24); }
                case "boy" -> f.boys.add(new int[] {c.number(1, 99), c.number(0, 20), c.number(0, 9)});
                case "likes" -> {
                    int a = c.number(0, f.boys.size() - 1), b = c.number(0, f.boys.size() - 1);
                    f.likes.put(a * 100 + b, c.number(0, 20));
                }
                case "canon" -> f.canons.add(new int[] {c.number(20, 99), c.number(0, 99)});
                case "farm" -> f.farms.add(new int[] {c.number(0, 60), c.number(0, 9)});
                case "way" -> {
                    int a = c.number(0, f.farms.size());
                    Token second = c.peek();
                    int b = c.number(0, f.farms.size());
                    if (a == b) throw new Fault(second.place(), 1);
                    f.ways.put(Math.min(a, b) * 100 + Math.max(a, b), c.number(1, 12));
                }
                default -> f.snow.add(c.number(0, 60));
            }
            if (c.peek().kind() == 'e') return f;
            c.expect(";");
        }
    }

    private static final List<String> WORDS =
        List.of("voter", "boy", "voice", "share", "likes", "fade", "was", "same", "day", "chest", "boys");

    private static final class RuleCursor {
        final Cursor c;
        int parts;
        RuleCursor(byte[] tape) { c = new Cursor(tape); }

        List<Clause> clauses() throws Fault {
            List<Clause> all = new ArrayList<>();
            while (true) {
                if (!c.is("vote")) throw c.stray();
                if (all.size() == 12) throw new Fault(c.peek().place(), 4);
                c.next();
                ToLongFunction<Asked> sum = sum();
                Test test = a -> true;
                if (c.is("if")) { c.next(); test = test(0); }
                all.add(new Clause(sum, test));
                if (c.peek().kind() == 'e') return all;
                c.expect(";");
            }
        }

        Test test(int depth) throws Fault {
            List<Test> any = new ArrayList<>(List.of(part(depth)));
            while (c.is("or")) { c.next(); any.add(part(depth)); }
            return a -> any.stream().anyMatch(t -> t.holds(a));
        }

        Test part(int depth) throws Fault {
            List<Test> all = new ArrayList<>(List.of(fact(depth)));
            while (c.is("and")) { c.next(); all.add(fact(depth)); }
            return a -> all.stream().allMatch(t -> t.holds(a));
        }

        Test fact(int depth) throws Fault {
            if (c.is("not") || c.is("[")) {
                if (depth == 10) throw new Fault(c.peek().place(), 2);
                if (c.next().text().equals("not")) {
                    Test inner = fact(depth + 1);
                    return a -> !inner.holds(a);
                }
                Test inner = test(depth + 1);
                c.expect("]");
                return inner;
            }
            ToLongFunction<Asked> left = sum();
            if (!List.of("<", "<=", "=", ">=", ">").contains(c.peek().text())) throw c.stray();
            Token sign = c.next();
            part(sign);
            ToLongFunction<Asked> right = sum();
            return a -> {
                int way = Long.compare(left.applyAsLong(a), right.applyAsLong(a));
                return switch (sign.text()) {
                    case "<" -> way < 0;
                    case "<=" -> way <= 0;
                    case "=" -> way == 0;
                    case ">=" -> way >= 0;
                    default -> way > 0;
                };
            };
        }

        void part(Token t) throws Fault {
            if (++parts > 60) throw new Fault(t.place(), 3);
        }

        ToLongFunction<Asked> sum() throws Fault {
            ToLongFunction<Asked> all = term();
            while (c.is("+") || c.is("-")) {
                boolean plus = c.next().text().equals("+");
                ToLongFunction<Asked> before = all, more = term();
                all = a -> plus ? before.applyAsLong(a) + more.applyAsLong(a) : before.applyAsLong(a) - more.applyAsLong(a);
            }
            return all;
        }

        ToLongFunction<Asked> term() throws Fault {
            ToLongFunction<Asked> all = value();
            while (c.is("*") || c.is("/") || c.is("%")) {
                String sign = c.next().text();
                ToLongFunction<Asked> before = all, more = value();
                all = a -> {
                    long p = before.applyAsLong(a), q = more.applyAsLong(a);
                    if (sign.equals("*")) return p * q;
                    if (q == 0) return 0;
                    return sign.equals("/") ? p / q : p % q;
                };
            }
            return all;
        }

        ToLongFunction<Asked> value() throws Fault {
            Token t = c.peek();
            if (t.kind() == 'n') {
                int n = c.number(0, 99999);
                part(t);
                return a -> n;
            }
            if (t.kind() != 'w' || !WORDS.contains(t.text())) throw c.stray();
            c.next();
            part(t);
            return a -> word(t.text(), a);
        }
    }

    private static long word(String w, Asked a) {
        State s = a.state();
        return switch (w) {
            case "voter" -> a.voter();
            case "boy" -> a.boy();
            case "voice" -> s.voice[a.boy()];
            case "share" -> s.share[a.boy()];
            case "likes" -> a.facts().likes.getOrDefault(a.voter() * 100 + a.boy(), 0);
            case "fade" -> a.facts().boys.get(a.boy())[2];
            case "was" -> s.was[a.boy()];
            case "same" -> a.voter() == a.boy() ? 1 : 0;
            case "day" -> s.day;
            case "chest" -> s.chest;
            default -> Arrays.stream(s.voice).filter(v -> v > 0).count();
        };
    }

    // ---- days

    private static State begin(Facts f) {
        State s = new State();
        s.voice = f.boys.stream().mapToInt(b -> b[0]).toArray();
        s.share = f.boys.stream().mapToInt(b -> b[1]).toArray();
        s.was = new int[f.boys.size()];
        s.age = f.canons.stream().mapToInt(c -> c[0]).toArray();
        s.given = new int[f.canons.size()];
        Arrays.fill(s.given, -1);
        s.free = new boolean[f.canons.size()];
        s.laid = f.farms.stream().mapToInt(g -> g[0]).toArray();
        return s;
    }

    private long want(int voter, int boy, State s, int rule) {
        Asked a = new Asked(voter, boy, facts, s);
        if (rule < 0) return word("likes", a) + word("share", a);
        for (Clause c : rules.get(rule)) if (c.test().holds(a)) return c.sum().applyAsLong(a);
        return 0;
    }

    private List<Integer> singing(State s) {
        List<Integer> all = new ArrayList<>();
        for (int b = 0; b < s.voice.length; b++) if (s.voice[b] > 0) all.add(b);
        return all;
    }

    private int[] ballots(State s, int rule) {
        int[] votes = new int[s.voice.length];
        for (int v = 0; v < votes.length; v++) {
            votes[v] = -1;
            long most = 0;
            for (int b : singing(s)) {
                long w = want(v, b, s, rule);
                if (w > most) { most = w; votes[v] = b; }
            }
        }
        return votes;
    }

    private static int elected(int[] votes) {
        int best = -1;
        long most = 0;
        for (int b = 0; b < votes.length; b++) {
            int boy = b;
            long n = Arrays.stream(votes).filter(v -> v == boy).count();
            if (n > most) { most = n; best = b; }
        }
        return best;
    }

    /** 1 if a vote chose somebody. */
    private int pass(State s, int rule) {
        int chose = 0;
        if (s.bishop < 0) {
            s.bishop = elected(ballots(s, rule));
            if (s.bishop >= 0) { s.first = s.day; s.was[s.bishop]++; chose = 1; }
        }
        if (!facts.snow.contains(s.day)) {
            for (int f = 0; f < s.laid.length; f++) {
                s.laid[f] = Math.min(facts.farms.get(f)[0], s.laid[f] + facts.farms.get(f)[1]);
            }
        }
        for (int b : singing(s)) {
            s.voice[b] -= facts.boys.get(b)[2];
            if (s.voice[b] < 1) s.voice[b] = 0;
        }
        if (s.bishop >= 0 && (s.voice[s.bishop] == 0 || s.day - s.first == facts.reign - 1)) { s.bishop = -1; s.first = -1; }
        for (int c = 0; c < s.age.length; c++) {
            if (s.day % 10 == 9 && s.age[c] < 100 && ++s.age[c] == 100) s.free[c] = true;
        }
        s.day++;
        s.out = 0;
        return chose;
    }

    private int between(int a, int b) {
        int[] far = new int[facts.farms.size() + 1];
        Arrays.fill(far, 9999);
        far[a] = 0;
        for (int i = 0; i <= far.length; i++) {
            for (Map.Entry<Integer, Integer> w : facts.ways.entrySet()) {
                int p = w.getKey() / 100, q = w.getKey() % 100;
                far[p] = Math.min(far[p], far[q] + w.getValue());
                far[q] = Math.min(far[q], far[p] + w.getValue());
            }
        }
        return far[b];
    }

    private boolean told() { return facts != null; }
    private boolean isBoy(int b) { return b >= 0 && b < state.voice.length; }
    private boolean sings(int b) { return isBoy(b) && state.voice[b] > 0; }
    private boolean isCanon(int c) { return c >= 0 && c < state.age.length; }
    private boolean lives(int c) { return isCanon(c) && state.age[c] < 100; }
    private boolean isFarm(int f) { return f >= 0 && f < state.laid.length; }
    private boolean snows() { return told() && facts.snow.contains(state.day); }
    private static boolean in(int n, int least, int most) { return n >= least && n <= most; }
    private void act() {
        acts.add(state.copy());
        if (acts.size() > 20) acts.remove(0);
    }

    // ---- the face

    int feed(int a, int b, int c, int d, int e) {
        if (tape.length > 380) return -1;
        java.nio.ByteBuffer more = java.nio.ByteBuffer.allocate(tape.length + 20);
        more.put(tape).putInt(a).putInt(b).putInt(c).putInt(d).putInt(e);
        tape = more.array();
        return tape.length;
    }

    int end(int n) {
        if (n < 0 || n > tape.length) return -1;
        tape = Arrays.copyOf(tape, n);
        return n;
    }

    int choir() {
        try {
            facts = readFacts(tape);
        } catch (Fault f) {
            return -2 - f.number;
        }
        tape = new byte[0];
        state = begin(facts);
        notes = new ArrayList<>();
        acts.clear();
        return facts.boys.size();
    }

    int rule() {
        if (rules.size() == 6) return -1;
        try {
            rules.add(new RuleCursor(tape).clauses());
        } catch (Fault f) {
            return -2 - f.number;
        }
        tape = new byte[0];
        return rules.size() - 1;
    }

    int force(int rule) {
        if (!in(rule, -1, rules.size() - 1)) return -2;
        int was = force;
        force = rule;
        return was;
    }

    int boy(int b, int what) {
        if (!isBoy(b) || !in(what, 0, 3)) return -1;
        return new int[] {state.voice[b], state.share[b], facts.boys.get(b)[2], state.was[b]}[what];
    }

    int likes(int b, int o) { return isBoy(b) && isBoy(o) ? facts.likes.getOrDefault(b * 100 + o, 0) : -1; }

    int canon(int c, int what) {
        if (!isCanon(c) || !in(what, 0, 3)) return -2;
        return new int[] {state.age[c], facts.canons.get(c)[1], state.free[c] ? 1 : 0, state.given[c]}[what];
    }

    int farm(int f, int what) {
        if (!isFarm(f) || !in(what, 0, 3)) return -2;
        int far = between(0, f + 1);
        return new int[] {facts.farms.get(f)[0], facts.farms.get(f)[1], state.laid[f], far > 5000 ? -1 : far}[what];
    }

    int day() {
        if (!told() || state.day == 999) return -2;
        act();
        pass(state, force);
        return state.bishop;
    }

    int visit(int f) {
        if (state.bishop < 0 || state.out == 1 || !isFarm(f)) return -1;
        if (2 * between(0, f + 1) * (snows() ? 2 : 1) > facts.hours) return -1;
        act();
        int all = state.laid[f], part = (int) Math.ceil(all * state.share[state.bishop] / 100.0);
        state.out = 1;
        state.laid[f] = 0;
        state.chest += all - part;
        state.shared += part;
        return all - part;
    }

    int promise(int b, int share) {
        if (!isBoy(b) || !in(share, 0, 20) || state.share[b] == share) return -1;
        act();
        int was = state.share[b];
        state.share[b] = share;
        return was;
    }

    int give(int from, int c) {
        if (state.bishop < 0 || !isCanon(from) || !state.free[from] || !lives(c)) return -1;
        act();
        state.free[from] = false;
        state.given[c] = from;
        return facts.canons.get(from)[1];
    }

    int breaks(int b) {
        if (!sings(b)) return -1;
        act();
        int was = state.voice[b];
        state.voice[b] = 0;
        return was;
    }

    int undo() {
        if (acts.isEmpty()) return -1;
        state = acts.remove(acts.size() - 1);
        return acts.size();
    }

    int ahead(int number, int n, int what) {
        if (!told() || !in(n, 0, 60) || !in(what, 0, 2)) return -2;
        if (what == 1 && !isBoy(number) || what == 2 && !isFarm(number)) return -2;
        State s = state.copy();
        for (int i = 0; i < n; i++) pass(s, force);
        return what == 0 ? s.bishop : what == 1 ? s.voice[number] : s.laid[number];
    }

    int votes(int b, int what) {
        if (!told() || !in(what, 0, 2) || what < 2 && !isBoy(b)) return -2;
        int[] votes = ballots(state, force);
        if (what == 2) return elected(votes);
        return what == 0 ? votes[b] : (int) Arrays.stream(votes).filter(v -> v == b).count();
    }

    int method(int method) {
        if (!told() || !in(method, 0, 2)) return -2;
        List<Integer> all = singing(state);
        int voters = state.voice.length;
        if (method == 0) {
            int best = -1, most = -1;
            for (int b : all) {
                int points = 0;
                for (int v = 0; v < voters; v++) {
                    for (int o : all) if (want(v, o, state, force) < want(v, b, state, force)) points++;
                }
                if (points > most) { most = points; best = b; }
            }
            return best;
        }
        if (method == 1) {
            for (int b : all) {
                boolean each = true;
                for (int o : all) {
                    int score = 0;
                    for (int v = 0; v < voters; v++) score += Long.compare(want(v, b, state, force), want(v, o, state, force));
                    if (o != b && score <= 0) each = false;
                }
                if (each) return b;
            }
            return -1;
        }
        while (all.size() > 1) {
            int[] firsts = new int[voters];
            for (int v = 0; v < voters; v++) {
                int first = all.get(0);
                for (int b : all) if (want(v, b, state, force) > want(v, first, state, force)) first = b;
                firsts[first]++;
            }
            int out = all.get(0);
            for (int b : all) if (firsts[b] <= firsts[out]) out = b;
            all.remove(Integer.valueOf(out));
        }
        return all.isEmpty() ? -1 : all.get(0);
    }

    int least(int b) {
        if (!sings(b)) return -1;
        for (int share = 0; share <= 20; share++) {
            State s = state.copy();
            s.share[b] = share;
            if (elected(ballots(s, force)) == b) return share;
        }
        return -2;
    }

    int winOver(int b, int what) {
        if (!sings(b) || !in(what, 0, 1)) return -1;
        int[] votes = ballots(state, force);
        for (int size = 0; size <= votes.length; size++) {
            for (int set = 0; set < 1 << votes.length; set++) {
                if (Integer.bitCount(set) != size) continue;
                int[] turned = votes.clone();
                for (int v = 0; v < votes.length; v++) if ((set & 1 << v) != 0) turned[v] = b;
                if (elected(turned) == b) return what == 0 ? size : set;
            }
        }
        throw new IllegalStateException("all boys together always win");
    }

    private int gain(int b, int one, int s1, int other, int s2) {
        State s = state.copy();
        s.share[one] = s1;
        s.share[other] = s2;
        return elected(ballots(s, force)) == b ? 20 - s.share[b] : 0;
    }

    int rests(int one, int other, int what) {
        if (!sings(one) || !sings(other) || one == other || !in(what, 0, 2)) return -1;
        List<int[]> found = new ArrayList<>();
        for (int a = 0; a <= 20; a += 5) {
            for (int b = 0; b <= 20; b += 5) {
                boolean rest = true;
                for (int c = 0; c <= 20; c += 5) {
                    if (gain(one, one, c, other, b) > gain(one, one, a, other, b)) rest = false;
                    if (gain(other, one, a, other, c) > gain(other, one, a, other, b)) rest = false;
                }
                if (rest) found.add(new int[] {a, b});
            }
        }
        if (what == 0) return found.size();
        return found.isEmpty() ? -2 : found.get(0)[what - 1];
    }

    private int[] bestTour;

    private void tours(int place, int set, int hours, int laid, int limit) {
        int all = hours + between(place, 0);
        if (all <= limit) {
            boolean better = laid > bestTour[0] || laid == bestTour[0]
                && (all < bestTour[2] || all == bestTour[2] && set < bestTour[1]);
            if (better) bestTour = new int[] {laid, set, all};
        }
        for (int f = 0; f < state.laid.length; f++) {
            if ((set & 1 << f) == 0 && hours + between(place, f + 1) <= limit) {
                tours(f + 1, set | 1 << f, hours + between(place, f + 1), laid + state.laid[f], limit);
            }
        }
    }

    int round(int what) {
        if (!told() || !in(what, 0, 2)) return -1;
        bestTour = new int[] {0, 0, 0};
        tours(0, 0, 0, 0, snows() ? facts.hours / 2 : facts.hours);
        return bestTour[what];
    }

    private int deathAfter(int c, int n) {
        State s = state.copy();
        for (int i = 0; i < n; i++) {
            pass(s, force);
            if (s.age[c] == 100) return i + 1;
        }
        return -1;
    }

    int falls(int c, int n) {
        if (!lives(c) || !in(n, 1, 60)) return -1;
        int after = deathAfter(c, n);
        return after < 0 ? -2 : state.day + after - 1;
    }

    int likely(int c, int n) {
        if (!lives(c) || !in(n, 1, 60)) return -1;
        int left = 10000;
        for (int i = 0; i < n; i++) left -= (int) Math.ceil(left * (double) state.age[c] / 1000);
        return 10000 - left;
    }

    int best(int what) {
        if (!told() || !in(what, 0, 1)) return -1;
        int best = -1, most = 0;
        for (int c = 0; c < state.age.length; c++) {
            if (lives(c) && deathAfter(c, 900) > most) { best = c; most = deathAfter(c, 900); }
        }
        return best < 0 ? -2 : what == 0 ? best : most;
    }

    int note(int n, int b) {
        if (n == -1) { notes.clear(); return 0; }
        if (!told() || !in(n, 0, 60) || b != -1 && !isBoy(b) || notes.size() == 10) return -2;
        notes.add(new Note(n, b));
        return notes.size();
    }

    private List<int[]> fitting() {
        List<int[]> all = new ArrayList<>();
        for (int r = -1; r < rules.size(); r++) {
            State s = begin(facts);
            int[] row = new int[62];
            row[61] = r;
            for (int d = 0; d <= 60; d++) { pass(s, r); row[d] = s.bishop; }
            if (notes.stream().allMatch(n -> row[n.day()] == n.boy())) all.add(row);
        }
        return all;
    }

    int ruled(int what) {
        if (!told() || !in(what, 0, 1)) return -3;
        List<int[]> all = fitting();
        return what == 0 ? all.size() : all.isEmpty() ? -2 : all.get(0)[61];
    }

    int look(int what) {
        if (!told() || !in(what, 0, 1)) return -1;
        List<int[]> all = fitting();
        if (all.isEmpty()) return -2;
        int best = -1, fewest = 99;
        for (int d = 0; d <= 60; d++) {
            Map<Integer, Integer> groups = new TreeMap<>();
            for (int[] row : all) groups.merge(row[d], 1, Integer::sum);
            int most = groups.values().stream().max(Integer::compare).get();
            if (most < fewest) { fewest = most; best = d; }
        }
        return what == 0 ? best : fewest;
    }

    int seed(int s) {
        if (s < 0) return -1;
        int was = x;
        x = s;
        return was;
    }

    int winters(int m, int n, int p, int what) {
        if (!told() || !in(m, 1, 10) || !in(n, 1, 60) || !in(p, 0, 100) || !in(what, 0, 1)) return -1;
        long drawn = x;
        int chose = 0, broken = 0;
        for (int i = 0; i < m; i++) {
            State s = state.copy();
            for (int d = 0; d < n; d++) {
                for (int b : singing(s)) {
                    drawn = (drawn * 1103515245 + 12345) % 2147483648L;
                    if (drawn / 65536 % 100 < p) s.voice[b] = 0;
                }
                chose += pass(s, force);
            }
            broken += s.voice.length - singing(s).size();
        }
        return what == 0 ? chose : broken;
    }

    int count(int what) {
        int free = 0, broken = 0;
        for (int c = 0; c < state.free.length; c++) if (state.free[c]) free |= 1 << c;
        for (int b = 0; b < state.voice.length; b++) if (state.voice[b] == 0) broken |= 1 << b;
        int[] all = {told() ? facts.reign : 0, told() ? facts.hours : 0, state.voice.length, state.age.length,
            state.laid.length, rules.size(), force, state.day, state.bishop, state.first, state.chest, state.shared,
            state.out, snows() ? 1 : 0, free, broken, notes.size(), acts.size(), x, tape.length};
        return in(what, 0, 19) ? all[what] : -1;
    }

    int image(int k) {
        if (!in(k, 0, 3)) return -1;
        pictures[k] = new Picture(facts, state.copy(), new ArrayList<>(notes), x, force);
        return state.day;
    }

    int back(int k) {
        if (!in(k, 0, 3) || pictures[k] == null) return -1;
        Picture p = pictures[k];
        facts = p.facts();
        state = p.state().copy();
        notes = new ArrayList<>(p.notes());
        x = p.x();
        force = p.force();
        acts.clear();
        return state.day;
    }
}
