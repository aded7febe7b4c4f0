import java.util.ArrayDeque;
import java.util.ArrayList;
import java.util.Arrays;
import java.util.Deque;
import java.util.HashMap;
import java.util.HashSet;
import java.util.List;
import java.util.Map;
import java.util.Random;
import java.util.Set;
import java.util.TreeSet;
import java.util.function.ToIntFunction;
import java.util.function.Predicate;

/**
 * Random runs of calls, each answer held against a second program that was written from the document
 * in another way: lists and copies, trees for texts, trying out for what is thought.
 */
public final class ModelRuns {
    private static final int NONE = -1;
    private static final int RUNS = 1200;
    private static final int CALLS = 512;

    // ---------------------------------------------------------------- the second program

    private static final class Fault extends RuntimeException {
        private static final long serialVersionUID = 1L;
        final int kind;
        final int place;

        Fault(int kind, int place) {
            this.kind = kind;
            this.place = place;
        }
    }

    private record Token(String sign, int place) {
        boolean isNumber() {
            return sign.matches("[0-9]{1,4}");
        }
    }

    private record Pair(Model m, int one, int other) { }

    private record LawLine(String word, ToIntFunction<Pair> sum, Predicate<Pair> when) { }

    private record Line(int beat, String kind, int who, int a, int b) { }

    private static final class Player {
        int loud, ear, x, y, note = NONE, off, after = NONE, wrong;

        Player copy() {
            Player p = new Player();
            p.loud = loud;
            p.ear = ear;
            p.x = x;
            p.y = y;
            p.note = note;
            p.off = off;
            p.after = after;
            p.wrong = wrong;
            return p;
        }
    }

    private static final class Model {
        List<Player> players = new ArrayList<>();
        Set<Integer> pillars = new TreeSet<>();
        int state, unisons, beat, pillarLines;
        List<int[]> book = new ArrayList<>();
        List<LawLine> law = new ArrayList<>();
        List<Line> score = new ArrayList<>();
        List<Line> stage = new ArrayList<>();
        Map<Integer, Integer> costs = new HashMap<>();
        List<Integer> row = new ArrayList<>();
        List<Integer> tune = new ArrayList<>();
        List<Integer> fingers = new ArrayList<>();
        List<int[]> quarrels = new ArrayList<>();

        Model copy() {
            Model m = new Model();
            for (Player p : players) {
                m.players.add(p.copy());
            }
            m.pillars.addAll(pillars);
            m.state = state;
            m.unisons = unisons;
            m.beat = beat;
            m.pillarLines = pillarLines;
            m.book.addAll(book);
            m.law.addAll(law);
            m.score.addAll(score);
            m.stage.addAll(stage);
            m.costs.putAll(costs);
            m.row.addAll(row);
            m.tune.addAll(tune);
            m.fingers.addAll(fingers);
            m.quarrels.addAll(quarrels);
            return m;
        }

        int on(int x, int y) {
            for (int i = 0; i < players.size(); i++) {
                if (players.get(i).x == x && players.get(i).y == y) {
                    return i;
                }
            }
            return NONE;
        }

        boolean free(int x, int y) {
            return x >= 0 && x < 8 && y >= 0 && y < 6 && !pillars.contains(8 * y + x) && on(x, y) == NONE;
        }

        int sounding() {
            return (int) players.stream().filter(p -> p.note != NONE).count();
        }

        int word(String word, int one, int other) {
            Player a = players.get(one);
            Player b = players.get(other);
            switch (word) {
                case "loud": return b.loud;
                case "ear": return a.ear;
                case "far": return Math.abs(a.x - b.x) + Math.abs(a.y - b.y);
                case "pillars": {
                    int many = 0;
                    for (int p : pillars) {
                        int x = p % 8;
                        int y = p / 8;
                        if ((x - a.x) * (x - b.x) <= 0 && (y - a.y) * (y - b.y) <= 0) {
                            many++;
                        }
                    }
                    return many;
                }
                case "off": return Math.abs(a.off - b.off);
                case "note": return b.note;
                case "wrong": return a.wrong;
                case "sounding": return sounding();
                default: return beat;
            }
        }

        int tells(String word, int one, int other) {
            int v = 0;
            boolean told = false;
            Pair pair = new Pair(this, one, other);
            for (LawLine line : law) {
                if (!told && line.word.equals(word) && (line.when == null || line.when.test(pair))) {
                    v = line.sum.applyAsInt(pair);
                    told = true;
                }
            }
            int least = word.equals("hears") ? -999 : 0;
            int most = word.equals("hears") ? 999 : word.equals("slips") ? 1000 : 50;
            if (!told && word.equals("hears")) {
                v = 20 * word("loud", one, other) - 10 * word("far", one, other) - 30 * word("pillars", one, other);
            } else if (!told) {
                int ear = players.get(one).ear;
                v = word.equals("slips") ? 200 - 20 * ear : ear;
            }
            return v < least ? least : v > most ? most : v;
        }

        int follows(int one) {
            int best = NONE;
            for (int p = players.size() - 1; p >= 0; p--) {
                if (p != one && players.get(p).note != NONE) {
                    int v = tells("hears", one, p);
                    if (v > 0 && (best == NONE || v >= tells("hears", one, best))) {
                        best = p;
                    }
                }
            }
            return best;
        }

        int draw(int m) {
            long wide = (1664525L * state + 1013904223L) & 0xffffffffL;
            state = (int) wide;
            return (int) ((wide >> 8) % m);
        }

        void write(int at, int what, int who, int much) {
            if (book.size() < 150) {
                book.add(new int[] {at, what, who, much});
            }
        }

        /** A beat; what comes of it is worked out player by player against an unchanged copy. */
        int goOn(boolean inThought) {
            for (Line line : stage) {
                if (line.beat == beat) {
                    Player p = players.get(line.who);
                    switch (line.kind) {
                        case "seat":
                            if (free(line.a, line.b)) {
                                p.x = line.a;
                                p.y = line.b;
                            }
                            break;
                        case "loud":
                            p.loud = line.a;
                            break;
                        case "tune":
                            p.off = 0;
                            break;
                        default:
                            p.note = NONE;
                    }
                }
            }
            Model then = copy();
            int slipped = 0;
            for (int i = 0; i < players.size(); i++) {
                Player p = players.get(i);
                Player was = then.players.get(i);
                int written = NONE;
                for (Line line : score) {
                    if (line.beat == beat && line.who == i) {
                        written = line.a;
                    }
                }
                boolean slips = false;
                int leader = then.follows(i);
                if (written != NONE || leader == NONE) {
                    p.note = written;
                    p.after = NONE;
                } else {
                    Player l = then.players.get(leader);
                    p.after = leader;
                    p.note = l.note;
                    for (int b = then.tells("bends", i, leader); b > 0; b--) {
                        p.off += Integer.compare(l.off, p.off);
                    }
                    int likely = then.tells("slips", i, leader);
                    slips = inThought ? likely >= 500 : likely > 0 && draw(1000) < likely;
                }
                if (slips) {
                    p.note = p.note == 11 ? 0 : p.note + 1;
                    p.wrong++;
                    slipped++;
                    write(beat, 0, i, p.note);
                }
                if (was.note != NONE && p.note == NONE) {
                    write(beat, 1, i, was.note);
                }
                if (was.note == NONE && p.note != NONE) {
                    write(beat, 2, i, p.note);
                }
            }
            Set<Integer> notes = new HashSet<>();
            for (Player p : players) {
                if (p.note != NONE) {
                    notes.add(p.note);
                }
            }
            if (sounding() >= 2 && notes.size() == 1) {
                unisons++;
                write(beat, 3, NONE, notes.iterator().next());
            }
            beat++;
            return slipped;
        }
    }

    /** Reads a text by taking its tokens from the front. */
    private static final class Parser {
        final Model m;
        final Deque<Token> tokens = new ArrayDeque<>();
        int open = 0;

        Parser(Model m, String text) {
            this.m = m;
            int i = 0;
            while (i < text.length()) {
                char c = text.charAt(i);
                if (c == 32 || c == 10) {
                    i++;
                    continue;
                }
                int j = i + 1;
                String kind = Character.toString(c).matches("[a-zA-Z]") ? "[a-zA-Z]" : c >= '0' && c <= '9' ? "[0-9]" : null;
                while (kind != null && j < text.length() && text.substring(j, j + 1).matches(kind)) {
                    j++;
                }
                tokens.add(new Token(text.substring(i, j), i));
                i = j;
            }
            tokens.add(new Token("", text.length()));
        }

        boolean is(String... signs) {
            return Arrays.asList(signs).contains(tokens.peek().sign);
        }

        Token take(String... signs) {
            if (!is(signs)) {
                throw new Fault(1, tokens.peek().place);
            }
            return tokens.poll();
        }

        int number(int least, int most) {
            Token t = tokens.peek();
            if (!t.isNumber()) {
                throw new Fault(1, t.place);
            }
            int v = Integer.parseInt(t.sign);
            if (v < least || v > most) {
                throw new Fault(2, t.place);
            }
            tokens.poll();
            return v;
        }

        void seventeenth(Token t, int lines) {
            if (lines >= 16) {
                throw new Fault(3, t.place);
            }
        }

        List<LawLine> law() {
            List<LawLine> lines = new ArrayList<>();
            while (!is("")) {
                Token word = take("hears", "slips", "bends");
                seventeenth(word, lines.size());
                ToIntFunction<Pair> sum = sum();
                Predicate<Pair> when = null;
                if (is("when")) {
                    take("when");
                    when = either();
                }
                take(";");
                lines.add(new LawLine(word.sign, sum, when));
            }
            return lines;
        }

        Predicate<Pair> either() {
            Predicate<Pair> left = both();
            while (is("or")) {
                take("or");
                left = left.or(both());
            }
            return left;
        }

        Predicate<Pair> both() {
            Predicate<Pair> left = clause();
            while (is("and")) {
                take("and");
                left = left.and(clause());
            }
            return left;
        }

        Predicate<Pair> clause() {
            if (is("not", "(")) {
                Token t = tokens.poll();
                open++;
                if (open == 9) {
                    throw new Fault(3, t.place);
                }
                Predicate<Pair> inner = t.sign.equals("not") ? clause().negate() : either();
                if (t.sign.equals("(")) {
                    take(")");
                }
                open--;
                return inner;
            }
            ToIntFunction<Pair> a = sum();
            String sign = take("<", "=", ">").sign;
            ToIntFunction<Pair> b = sum();
            return p -> {
                int c = Integer.compare(a.applyAsInt(p), b.applyAsInt(p));
                return c == (sign.equals("<") ? -1 : sign.equals("=") ? 0 : 1);
            };
        }

        ToIntFunction<Pair> sum() {
            ToIntFunction<Pair> left = product();
            while (is("+", "-")) {
                ToIntFunction<Pair> a = left;
                boolean plus = tokens.poll().sign.equals("+");
                ToIntFunction<Pair> b = product();
                left = p -> plus ? a.applyAsInt(p) + b.applyAsInt(p) : a.applyAsInt(p) - b.applyAsInt(p);
            }
            return left;
        }

        ToIntFunction<Pair> product() {
            ToIntFunction<Pair> left = unit();
            while (is("*", "/")) {
                ToIntFunction<Pair> a = left;
                if (tokens.poll().sign.equals("*")) {
                    ToIntFunction<Pair> b = unit();
                    left = p -> a.applyAsInt(p) * b.applyAsInt(p);
                } else {
                    int b = number(1, 9999);
                    left = p -> a.applyAsInt(p) / b;
                }
            }
            return left;
        }

        ToIntFunction<Pair> unit() {
            if (tokens.peek().isNumber()) {
                int v = number(0, 9999);
                return p -> v;
            }
            String word = take("loud", "ear", "far", "pillars", "off", "note", "wrong", "sounding", "beat").sign;
            return p -> p.m.word(word, p.one, p.other);
        }

        List<Line> score() {
            List<Line> lines = new ArrayList<>();
            while (!is("")) {
                seventeenth(take("at"), lines.size());
                int at = number(0, 999);
                take("player");
                int who = number(0, m.players.size() - 1);
                take("note");
                lines.add(new Line(at, "note", who, number(0, 11), 0));
                take(";");
            }
            return lines;
        }

        List<Line> stage() {
            List<Line> lines = new ArrayList<>();
            while (!is("")) {
                seventeenth(take("at"), lines.size());
                int at = number(0, 999);
                String kind = take("seat", "loud", "tune", "hush").sign;
                int who = number(0, m.players.size() - 1);
                int a = kind.equals("seat") ? number(0, 7) : kind.equals("loud") ? number(1, 9) : 0;
                int b = kind.equals("seat") ? number(0, 5) : 0;
                take(";");
                lines.add(new Line(at, kind, who, a, b));
            }
            return lines;
        }

        List<Integer> pillars() {
            List<Integer> seats = new ArrayList<>();
            while (!is("")) {
                seventeenth(take("pillar"), seats.size());
                int x = number(0, 7);
                int place = tokens.peek().place;
                int y = number(0, 5);
                if (m.on(x, y) != NONE) {
                    throw new Fault(2, place);
                }
                seats.add(8 * y + x);
                take(";");
            }
            return seats;
        }
    }

    /** The same face, for the second program. */
    private static final class Other {
        Model m = new Model();
        Model image = null;
        Deque<Model> past = new ArrayDeque<>();
        StringBuilder tape = new StringBuilder();
        int fault = 0;
        int place = NONE;

        void keep() {
            past.push(m.copy());
            if (past.size() > 6) {
                past.removeLast();
            }
        }

        boolean has(int p) {
            return p >= 0 && p < m.players.size();
        }

        int state(int v) {
            int was = m.state;
            m.state = v;
            past.clear();
            return was;
        }

        int player(int loud, int ear, int x, int y) {
            if (m.players.size() == 12 || loud < 1 || loud > 9 || ear < 0 || ear > 9 || !m.free(x, y)) {
                return NONE;
            }
            Player p = new Player();
            p.loud = loud;
            p.ear = ear;
            p.x = x;
            p.y = y;
            m.players.add(p);
            past.clear();
            return m.players.size() - 1;
        }

        int set(int what, int who, int v) {
            int[] least = {1, 0, -50};
            int[] most = {9, 9, 50};
            if (what < 0 || what > 2 || !has(who) || v < least[what] || v > most[what]) {
                return 0;
            }
            Player p = m.players.get(who);
            p.loud = what == 0 ? v : p.loud;
            p.ear = what == 1 ? v : p.ear;
            p.off = what == 2 ? v : p.off;
            past.clear();
            return 1;
        }

        int act(int what, int who, int v) {
            if (!has(who)) {
                return 0;
            }
            Player p = m.players.get(who);
            boolean can = what == 0 && v >= 0 && v < 48 && m.free(v % 8, v / 8) || what == 1 && p.off != 0
                    || what == 2 && v >= 0 && v < 12 && p.note != v || what == 3 && p.note != NONE;
            if (!can) {
                return 0;
            }
            keep();
            if (what == 0) {
                p.x = v % 8;
                p.y = v / 8;
            } else if (what == 1) {
                p.off = 0;
            } else {
                p.note = what == 2 ? v : NONE;
                p.after = NONE;
            }
            return 1;
        }

        int beats(int n) {
            if (n < 1 || n > 60 || m.beat + n > 9999) {
                return NONE;
            }
            int sum = 0;
            for (int i = 0; i < n; i++) {
                keep();
                sum += m.goOn(false);
            }
            return sum;
        }

        int feed(int... five) {
            if (tape.length() > 380) {
                return NONE;
            }
            for (int v : five) {
                tape.append((char) (v >>> 24)).append((char) (v >> 16 & 255)).append((char) (v >> 8 & 255)).append((char) (v & 255));
            }
            return tape.length();
        }

        int end(int n) {
            if (n < 0 || n > tape.length()) {
                return 0;
            }
            tape.setLength(n);
            return 1;
        }

        int text(int k) {
            String text = tape.toString();
            tape.setLength(0);
            fault = 0;
            place = NONE;
            try {
                Parser parser = new Parser(m, text);
                switch (k) {
                    case 0:
                        m.law = parser.law();
                        return m.law.size();
                    case 1:
                        m.score = parser.score();
                        past.clear();
                        return m.score.size();
                    case 2:
                        m.stage = parser.stage();
                        past.clear();
                        return m.stage.size();
                    case 3:
                        List<Integer> seats = parser.pillars();
                        m.pillars = new TreeSet<>(seats);
                        m.pillarLines = seats.size();
                        past.clear();
                        return seats.size();
                    default:
                        return NONE;
                }
            } catch (Fault f) {
                fault = f.kind;
                place = f.place;
                return NONE;
            }
        }

        int of(int player, int what) {
            if (!has(player)) {
                return -10000;
            }
            Player p = m.players.get(player);
            int[] plain = {p.loud, p.ear, p.x, p.y, p.note, p.off, p.after, p.wrong};
            if (what >= 0 && what < 8) {
                return plain[what];
            }
            if (what == 8) {
                return m.follows(player);
            }
            for (int q = 0; q < m.players.size(); q++) {
                if (q != player && (what == 10 + q || what == 30 + q || what == 50 + q)) {
                    return m.tells(what < 30 ? "hears" : what < 50 ? "slips" : "bends", player, q);
                }
            }
            return -10000;
        }

        int seat(int x, int y, int what) {
            if (x < 0 || x > 7 || y < 0 || y > 5 || what < 0 || what > 1) {
                return -2;
            }
            return what == 0 ? m.on(x, y) : m.pillars.contains(8 * y + x) ? 1 : 0;
        }

        int book(int i, int what) {
            return i < 0 || i >= m.book.size() || what < 0 || what > 3 ? -2 : m.book.get(i)[what];
        }

        int goes(int n, int what) {
            if (n < 1 || n > 60 || what < 0 || what > 3) {
                return NONE;
            }
            Model t = m.copy();
            for (int i = 0; i < n; i++) {
                t.goOn(true);
            }
            if (what == 0) {
                return t.sounding();
            }
            if (what == 1) {
                return t.unisons;
            }
            return t.players.stream().mapToInt(p -> what == 2 ? p.wrong : Math.abs(p.off)).sum();
        }

        int all() {
            Model t = m.copy();
            for (int i = 0; i <= 60 && !t.players.isEmpty(); i++) {
                if (t.sounding() == t.players.size()) {
                    return i;
                }
                t.goOn(true);
            }
            return NONE;
        }

        int round(int a, int b, int what) {
            if (a < 0 || a > 47 || b < 0 || b > 47 || what < 0 || what > 1 || m.pillars.contains(a) || m.pillars.contains(b)) {
                return NONE;
            }
            int[] far = new int[48];
            Arrays.fill(far, 1000);
            far[a] = 0;
            for (int again = 0; again < 48; again++) {
                for (int s = 0; s < 48; s++) {
                    for (int r = 0; r < 48; r++) {
                        boolean beside = Math.abs(s % 8 - r % 8) + Math.abs(s / 8 - r / 8) == 1;
                        if (beside && !m.pillars.contains(s) && !m.pillars.contains(r)) {
                            far[s] = Math.min(far[s], far[r] + 1);
                        }
                    }
                }
            }
            if (far[b] >= 1000) {
                return NONE;
            }
            return what == 0 ? far[b] : (int) Arrays.stream(far).filter(f -> f <= far[b]).count();
        }

        int cost(int a, int b, int v) {
            if (a < 0 || a > 5 || b < 0 || b > 5 || a == b || v < 0 || v > 9) {
                return 0;
            }
            m.costs.put(Math.min(a, b) * 6 + Math.max(a, b), v);
            return 1;
        }

        int desks(int n, int what) {
            if (n < 1 || n > 6 || what < 0 || what > 1) {
                return NONE;
            }
            int[] best = {Integer.MAX_VALUE, 0};
            sit(n, "", best);
            return best[what];
        }

        void sit(int n, String row, int[] best) {
            if (row.length() == n) {
                int sum = 0;
                for (int a = 0; a < n; a++) {
                    for (int b = a + 1; b < n; b++) {
                        int apart = Math.abs(row.indexOf('0' + a) - row.indexOf('0' + b));
                        sum += apart * m.costs.getOrDefault(6 * a + b, 0);
                    }
                }
                int order = Integer.parseInt(row);
                if (sum < best[0] || sum == best[0] && order < best[1]) {
                    best[0] = sum;
                    best[1] = order;
                }
                return;
            }
            for (int p = n - 1; p >= 0; p--) {
                if (row.indexOf('0' + p) < 0) {
                    sit(n, row + p, best);
                }
            }
        }

        int chord(int set, int c) {
            if (set < 0 || set > 4095 || c < 0 || c > 6) {
                return NONE;
            }
            int least = 4096;
            int couples = 0;
            for (int by = 0; by < 12; by++) {
                for (int turn = 0; turn < 2; turn++) {
                    int moved = 0;
                    for (int k = 0; k < 12; k++) {
                        if ((set & 1 << k) != 0) {
                            moved |= 1 << ((turn == 1 ? 12 - k : k) + by) % 12;
                        }
                    }
                    least = Math.min(least, moved);
                }
            }
            for (int i = 0; i < 12; i++) {
                for (int j = i + 1; j < 12; j++) {
                    if ((set & 1 << i) != 0 && (set & 1 << j) != 0 && Math.min(j - i, 12 - j + i) == c) {
                        couples++;
                    }
                }
            }
            return c == 0 ? least : couples;
        }

        int tell(List<Integer> list, int most, int highest, boolean once, int v) {
            if (v == NONE) {
                list.clear();
                return 0;
            }
            if (v < 0 || v > highest || list.size() == most || once && list.contains(v)) {
                return NONE;
            }
            list.add(v);
            return list.size();
        }

        int series(int way, int t, int i) {
            if (way < 0 || way > 3 || t < 0 || t > 11 || i < -1 || i >= m.row.size()) {
                return NONE;
            }
            List<Integer> out = new ArrayList<>();
            for (int v : m.row) {
                int turned = way == 1 || way == 3 ? 2 * m.row.get(0) - v : v;
                int at = way >= 2 ? 0 : out.size();
                out.add(at, (turned + t + 24) % 12);
            }
            Set<Integer> steps = new HashSet<>();
            for (int j = 1; j < out.size(); j++) {
                steps.add((out.get(j) - out.get(j - 1) + 12) % 12);
            }
            return i == -1 ? steps.size() : out.get(i);
        }

        int[] together(int d, int t) {
            int[] sums = new int[2];
            for (int time = 0; time < 40; time++) {
                if (time < m.tune.size() && time - d >= 0 && time - d < m.tune.size()) {
                    int a = m.tune.get(time);
                    int b = m.tune.get(time - d) + t;
                    sums[0]++;
                    sums[1] += List.of(0, 3, 4, 7, 8, 9).contains((Math.max(a, b) - Math.min(a, b)) % 12) ? 1 : 0;
                }
            }
            return sums;
        }

        int canon(int d, int t, int what) {
            if (t < -12 || t > 12 || what < 0 || what > 2 || what < 2 && (d < 1 || d > 11)) {
                return NONE;
            }
            if (what < 2) {
                return together(d, t)[what];
            }
            int best = NONE;
            for (int e = 11; e >= 1; e--) {
                int[] sums = together(e, t);
                if (sums[0] > 0 && (best == NONE || sums[1] >= together(best, t)[1])) {
                    best = e;
                }
            }
            return best;
        }

        int twice(int what) {
            if (what < 0 || what > 1) {
                return NONE;
            }
            int n = m.tune.size();
            for (int length = n - 1; length >= 1; length--) {
                for (int i = 0; i + length <= n; i++) {
                    for (int j = 0; j + length <= n; j++) {
                        if (i != j && m.tune.subList(i, i + length).equals(m.tune.subList(j, j + length))) {
                            return what == 0 ? length : i;
                        }
                    }
                }
            }
            return what == 0 ? 0 : NONE;
        }

        int hunt(int n, int k, int i) {
            if (n < 3 || n > 8 || k < 0 || k > 99 || i < -1 || i >= n) {
                return NONE;
            }
            StringBuilder bells = new StringBuilder("01234567".substring(0, n));
            for (int c = 1; c <= k; c++) {
                for (int at = c % 2 == 1 ? 0 : 1; at < n - 1; at += 2) {
                    bells.insert(at, bells.charAt(at + 1)).deleteCharAt(at + 2);
                }
            }
            int out = 0;
            for (int a = 0; a < n; a++) {
                for (int b = a + 1; b < n; b++) {
                    out += bells.charAt(a) > bells.charAt(b) ? 1 : 0;
                }
            }
            return i == -1 ? out : bells.charAt(i) - '0';
        }

        int fingers(int what) {
            if (what < 0 || what > 1) {
                return NONE;
            }
            if (m.fingers.isEmpty()) {
                return what == 0 ? 0 : NONE;
            }
            int[] best = {Integer.MAX_VALUE, NONE};
            int[] costs = {0, 0, 0, 0};
            for (int first = 3; first >= 0; first--) {
                Map<Integer, Integer> at = new HashMap<>();
                int fret = m.fingers.get(0) - 5 * first;
                if (fret >= 0 && fret <= 9) {
                    at.put(10 * first + fret, 0);
                }
                for (int v : m.fingers.subList(1, m.fingers.size())) {
                    Map<Integer, Integer> next = new HashMap<>();
                    for (int s = 0; s < 4; s++) {
                        int f = v - 5 * s;
                        for (Map.Entry<Integer, Integer> e : at.entrySet()) {
                            int step = Math.abs(f - e.getKey() % 10) + 2 * Math.abs(s - e.getKey() / 10);
                            if (f >= 0 && f <= 9) {
                                next.merge(10 * s + f, e.getValue() + step, Math::min);
                            }
                        }
                    }
                    at = next;
                }
                for (int c : at.values()) {
                    if (c <= best[0]) {
                        best[0] = c;
                        best[1] = first;
                    }
                }
            }
            return best[1] == NONE ? NONE : best[what];
        }

        int quarrel(int a, int b) {
            if (a == NONE) {
                m.quarrels.clear();
                return 0;
            }
            if (a < 0 || a > 9 || b < 0 || b > 9 || a == b || m.quarrels.size() == 16) {
                return NONE;
            }
            m.quarrels.add(new int[] {a, b});
            return m.quarrels.size();
        }

        int quarrels(int what) {
            if (what < 0 || what > 2) {
                return NONE;
            }
            List<Integer> best = new ArrayList<>();
            for (int set = 1023; set >= 0; set--) {
                boolean peace = true;
                for (int[] q : m.quarrels) {
                    peace &= (set >> q[0] & set >> q[1] & 1) == 0;
                }
                if (peace && (best.isEmpty() || Integer.bitCount(set) >= Integer.bitCount(best.get(0)))) {
                    if (!best.isEmpty() && Integer.bitCount(set) > Integer.bitCount(best.get(0))) {
                        best.clear();
                    }
                    best.add(set);
                }
            }
            return what == 0 ? Integer.bitCount(best.get(0)) : what == 1 ? best.size() : best.get(best.size() - 1);
        }

        int bars(int n, int what) {
            if (n < 0 || n > 40 || what < 0 || what > 1) {
                return NONE;
            }
            int[] sums = {0, NONE};
            fill(n, 0, 0, sums);
            return sums[what];
        }

        void fill(int n, int last, int many, int[] sums) {
            if (n == 0) {
                sums[0]++;
                sums[1] = sums[1] == NONE ? many : Math.min(sums[1], many);
            }
            for (int bar = 2; bar <= 4 && bar <= n; bar++) {
                if (bar != last) {
                    fill(n - bar, bar, many + 1, sums);
                }
            }
        }

        int scale(int set, int what) {
            if (set < 0 || set > 4095 || what < 0 || what > 1) {
                return NONE;
            }
            int many = 0;
            for (int k = 0; k < 12; k++) {
                int need = 1 << k | 1 << (k + 4 - what) % 12 | 1 << (k + 7) % 12;
                many += (set & need) == need ? 1 : 0;
            }
            return many;
        }

        int game(int a, int b, int what) {
            if (a < 1 || a > 999 || b < 1 || b > 999 || what < 0 || what > 1) {
                return NONE;
            }
            return what == 0 ? best(Math.max(a, b), Math.min(a, b), new HashMap<>())
                    : takings(Math.max(a, b), Math.min(a, b), new HashMap<>());
        }

        int best(int a, int b, Map<Integer, Integer> known) {
            Integer k = known.get(1000 * a + b);
            if (k != null) {
                return k;
            }
            int answer = NONE;
            for (int times = a / b; times >= 1; times--) {
                int left = a - times * b;
                if (left == 0 || best(Math.max(left, b), Math.min(left, b), known) == NONE) {
                    answer = times;
                }
            }
            known.put(1000 * a + b, answer);
            return answer;
        }

        int takings(int a, int b, Map<Integer, Integer> known) {
            if (b == 0) {
                return 0;
            }
            Integer k = known.get(1000 * a + b);
            if (k != null) {
                return k;
            }
            int least = Integer.MAX_VALUE;
            for (int times = a / b; times >= 1; times--) {
                int left = a - times * b;
                least = Math.min(least, 1 + takings(Math.max(left, b), Math.min(left, b), known));
            }
            known.put(1000 * a + b, least);
            return least;
        }

        int undo() {
            if (past.isEmpty()) {
                return 0;
            }
            Model was = past.pop();
            was.law = m.law;
            was.costs = m.costs;
            was.row = m.row;
            was.tune = m.tune;
            was.fingers = m.fingers;
            was.quarrels = m.quarrels;
            m = was;
            return 1;
        }

        int image(boolean taken) {
            if (taken) {
                image = m.copy();
                return 1;
            }
            if (image == null) {
                return 0;
            }
            m = image.copy();
            past.clear();
            return 1;
        }

        int look(int what) {
            int set = 0;
            for (int p = 0; p < m.players.size(); p++) {
                set += m.players.get(p).note != NONE ? 1 << p : 0;
            }
            int[] answers = {m.players.size(), set, m.unisons, m.beat, m.book.size(), m.state, m.law.size(), m.score.size(),
                m.stage.size(), m.pillarLines, m.pillars.size(), past.size()};
            return what >= 0 && what < 12 ? answers[what] : -100000;
        }
    }

    // ---------------------------------------------------------------- the runs

    private final Random random;
    private final HearsayOrchestra one = new HearsayOrchestra();
    private final Other other = new Other();
    private final StringBuilder story = new StringBuilder();
    private int calls = 0;
    private int wrong = 0;

    private ModelRuns(long seed) {
        random = new Random(seed);
    }

    private void due(String call, int got, int want) {
        calls++;
        story.append(call).append(" = ").append(want).append('\n');
        if (got != want) {
            wrong++;
            if (wrong == 1) {
                System.out.println(story);
                System.out.println(call + " answered " + got + ", due is " + want);
            }
        }
    }

    private int any(int least, int most) {
        int dice = random.nextInt(60);
        if (dice == 0) {
            int[] far = {Integer.MIN_VALUE, Integer.MAX_VALUE, least - 1, most + 1, -1, 1000000};
            return far[random.nextInt(far.length)];
        }
        if (dice == 1) {
            return random.nextBoolean() ? least - 1 : most + 1;
        }
        if (dice < 8) {
            return random.nextBoolean() ? least : most;
        }
        return least + random.nextInt(most - least + 1);
    }

    private int who() {
        int n = one.look(0);
        return n == 0 ? any(0, 1) : any(0, n - 1);
    }

    private String number(int least, int most) {
        if (random.nextInt(150) == 0) {
            return new String[] {"0", "00", "9999", "12345", "1000", "12", ""}[random.nextInt(7)];
        }
        return Integer.toString(least + random.nextInt(most - least + 1));
    }

    private String player() {
        return number(0, Math.max(0, one.look(0) - 1));
    }

    private String pick(String... words) {
        return words[random.nextInt(words.length)];
    }

    private String blank() {
        return random.nextInt(4) == 0 ? pick(" ", "\n", "  ") : "";
    }

    private String unit() {
        if (random.nextInt(3) == 0) {
            return number(0, random.nextInt(5) == 0 ? 9999 : 60);
        }
        return pick("loud", "ear", "far", "pillars", "off", "note", "wrong", "sounding", "beat");
    }

    private String sum() {
        StringBuilder s = new StringBuilder(unit());
        while (random.nextInt(2) == 0 && s.length() < 40) {
            String op = pick("+", "-", "*", "/");
            s.append(blank()).append(op).append(blank()).append(op.equals("/") ? number(1, 20) : unit());
        }
        return s.toString();
    }

    private String clause(int depth) {
        int dice = random.nextInt(depth > 0 ? 4 : 2);
        if (dice == 2) {
            return "not " + clause(depth - 1);
        }
        if (dice == 3) {
            return "(" + either(depth - 1) + ")";
        }
        return sum() + blank() + pick("<", "=", ">") + blank() + sum();
    }

    private String either(int depth) {
        StringBuilder s = new StringBuilder(clause(depth));
        while (random.nextInt(3) == 0 && s.length() < 90) {
            s.append(pick(" and ", " or ")).append(clause(depth));
        }
        return s.toString();
    }

    private String lawLine() {
        String word = pick("hears", "slips", "bends");
        String value = random.nextInt(3) == 0 && word.equals("slips") ? number(0, 1000) : sum();
        return word + " " + value + (random.nextInt(2) == 0 ? " when " + either(random.nextInt(12)) : "");
    }

    private String beat() {
        return random.nextInt(12) == 0 ? number(0, 999) : number(Math.min(990, one.look(3)), Math.min(990, one.look(3)) + 6);
    }

    private String stageLine() {
        String kind = pick("seat", "loud", "tune", "hush");
        String rest = kind.equals("seat") ? " " + number(0, 7) + " " + number(0, 5) : kind.equals("loud") ? " " + number(1, 9) : "";
        return "at " + beat() + " " + kind + " " + player() + rest;
    }

    private String line(int k) {
        switch (k) {
            case 0: return lawLine();
            case 1: return "at " + beat() + " player " + player() + " note " + number(0, 11);
            case 2: return stageLine();
            default: return "pillar " + number(0, 7) + " " + number(0, 5);
        }
    }

    private String spoilt(String text) {
        StringBuilder s = new StringBuilder(text);
        int at = random.nextInt(s.length() + 1);
        switch (random.nextInt(4)) {
            case 0:
                s.setLength(at);
                break;
            case 1:
                s.insert(at, pick("x", "(", ")", "not ", " ", "0", ";", "#", "/0", "\t", " and ", "1 ", "when", "\u00e9", "Hears"));
                break;
            case 2:
                if (at < s.length()) {
                    s.deleteCharAt(at);
                }
                break;
            default:
                s.append(pick("at", "hears", "pillar 1", "slips 1 when ((((((((((1=1", "bends", ";", "at 5 tune 0;"));
        }
        return s.toString();
    }

    private void text() {
        int k = random.nextInt(4);
        int lines = random.nextInt(12) == 0 ? 15 + random.nextInt(3) : random.nextInt(6);
        StringBuilder s = new StringBuilder();
        for (int i = 0; i < lines; i++) {
            s.append(lines > 8 && k == 0 ? "bends ear" : line(k)).append(blank()).append(';').append(blank());
        }
        String text = random.nextInt(4) == 0 ? spoilt(s.toString()) : s.toString();
        text = text.length() > 400 ? text.substring(0, 400) : text;
        for (int from = 0; from < text.length(); from += 20) {
            int[] v = new int[5];
            for (int i = 0; i < 20; i++) {
                v[i / 4] = v[i / 4] << 8 | (from + i < text.length() ? text.charAt(from + i) : 32);
            }
            due("feed(" + v[0] + ", " + v[1] + ", " + v[2] + ", " + v[3] + ", " + v[4] + ")",
                    one.feed(v[0], v[1], v[2], v[3], v[4]), other.feed(v));
        }
        if (random.nextInt(20) > 0) {
            due("end(" + text.length() + ")", one.end(text.length()) ? 1 : 0, other.end(text.length()));
        }
        int told = random.nextInt(30) == 0 ? any(0, 3) : k;
        story.append(text).append('\n');
        due("text(" + told + ")", one.text(told), other.text(told));
        due("fault(0)", one.fault(0), other.fault);
        due("fault(1)", one.fault(1), other.place);
    }

    private void hall() {
        int a = any(0, 4);
        int b = any(0, 9);
        int c = any(0, 11);
        int d = any(0, 47);
        switch (random.nextInt(14)) {
            case 0: {
                int v = random.nextInt();
                due("state(" + v + ")", one.state(v), other.state(v));
                break;
            }
            case 1: {
                int x = any(0, 7);
                int y = any(0, 5);
                int l = any(1, 9);
                due("player(" + l + ", " + b + ", " + x + ", " + y + ")", one.player(l, b, x, y), other.player(l, b, x, y));
                break;
            }
            case 2: {
                int w = who();
                int v = a == 2 ? any(-50, 50) : any(1, 9);
                due("set(" + a + ", " + w + ", " + v + ")", one.set(a, w, v) ? 1 : 0, other.set(a, w, v));
                break;
            }
            case 3:
            case 4:
            case 5: {
                int w = who();
                int v = a == 0 ? d : c;
                due("act(" + a + ", " + w + ", " + v + ")", one.act(a, w, v) ? 1 : 0, other.act(a, w, v));
                break;
            }
            case 6:
            case 7:
            case 8: {
                int n = random.nextInt(8) == 0 ? any(1, 60) : 1 + random.nextInt(3);
                due("beats(" + n + ")", one.beats(n), other.beats(n));
                break;
            }
            case 9:
                due("undo()", one.undo() ? 1 : 0, other.undo());
                break;
            case 10: {
                boolean taken = random.nextBoolean();
                due("image(" + taken + ")", one.image(taken) ? 1 : 0, other.image(taken));
                break;
            }
            default:
                text();
        }
    }

    private void asked() {
        int w = who();
        int what = any(0, 70);
        due("of(" + w + ", " + what + ")", one.of(w, what), other.of(w, what));
        int x = any(0, 7);
        int y = any(0, 5);
        int two = any(0, 1);
        due("seat(" + x + ", " + y + ", " + two + ")", one.seat(x, y, two), other.seat(x, y, two));
        int line = any(0, Math.max(1, one.look(4)));
        int four = any(0, 3);
        due("book(" + line + ", " + four + ")", one.book(line, four), other.book(line, four));
        int look = any(0, 11);
        due("look(" + look + ")", one.look(look), other.look(look));
        if (random.nextInt(3) == 0) {
            int n = random.nextInt(6) == 0 ? any(1, 60) : any(1, 6);
            due("goes(" + n + ", " + four + ")", one.goes(n, four), other.goes(n, four));
        }
        if (random.nextInt(20) == 0) {
            due("all()", one.all(), other.all());
        }
    }

    private void everything() {
        for (int what = 0; what < 12; what++) {
            due("look(" + what + ")", one.look(what), other.look(what));
        }
        for (int p = 0; p < one.look(0); p++) {
            for (int what = 0; what < 62; what++) {
                due("of(" + p + ", " + what + ")", one.of(p, what), other.of(p, what));
            }
        }
        for (int i = 0; i < one.look(4); i++) {
            for (int what = 0; what < 4; what++) {
                due("book(" + i + ", " + what + ")", one.book(i, what), other.book(i, what));
            }
        }
    }

    private void told() {
        int v = any(-1, 24);
        int c = any(0, 11);
        int a = random.nextInt(15) == 0 ? NONE : any(0, 9);
        int b = any(0, 9);
        switch (random.nextInt(5)) {
            case 0: {
                int x = any(0, 5);
                int y = any(0, 5);
                due("cost(" + x + ", " + y + ", " + b + ")", one.cost(x, y, b) ? 1 : 0, other.cost(x, y, b));
                break;
            }
            case 1:
                due("note(" + c + ")", one.note(c), other.tell(other.m.row, 12, 11, true, c));
                break;
            case 2: {
                int t = random.nextInt(3) > 0 ? v % 4 : v;
                due("tune(" + t + ")", one.tune(t), other.tell(other.m.tune, 12, 24, false, t));
                break;
            }
            case 3:
                due("finger(" + v + ")", one.finger(v), other.tell(other.m.fingers, 10, 24, false, v));
                break;
            default:
                due("quarrel(" + a + ", " + b + ")", one.quarrel(a, b), other.quarrel(a, b));
        }
    }

    private void thought() {
        int what = any(0, 2);
        int n = any(0, 40);
        int set = any(0, 4095);
        int t = any(0, 11);
        switch (random.nextInt(11)) {
            case 0: {
                int a = any(0, 47);
                int b = any(0, 47);
                due("round(" + a + ", " + b + ", " + what + ")", one.round(a, b, what), other.round(a, b, what));
                break;
            }
            case 1: {
                int m = any(1, 6);
                due("desks(" + m + ", " + what + ")", one.desks(m, what), other.desks(m, what));
                break;
            }
            case 2: {
                int c = any(0, 6);
                due("chord(" + set + ", " + c + ")", one.chord(set, c), other.chord(set, c));
                break;
            }
            case 3: {
                int way = any(0, 3);
                int i = any(-1, Math.max(0, other.m.row.size() - 1));
                due("series(" + way + ", " + t + ", " + i + ")", one.series(way, t, i), other.series(way, t, i));
                break;
            }
            case 4: {
                int d = any(1, 11);
                int by = any(-12, 12);
                due("canon(" + d + ", " + by + ", " + what + ")", one.canon(d, by, what), other.canon(d, by, what));
                break;
            }
            case 5:
                due("twice(" + what + ")", one.twice(what), other.twice(what));
                break;
            case 6: {
                int m = any(3, 8);
                int k = any(0, 99);
                int i = any(-1, m >= 3 && m <= 8 ? m - 1 : 7);
                due("hunt(" + m + ", " + k + ", " + i + ")", one.hunt(m, k, i), other.hunt(m, k, i));
                break;
            }
            case 7:
                due("fingers(" + what + ")", one.fingers(what), other.fingers(what));
                break;
            case 8:
                due("quarrels(" + what + ")", one.quarrels(what), other.quarrels(what));
                break;
            case 9:
                n = n > 24 && random.nextInt(20) > 0 ? n % 24 : n;
                due("bars(" + n + ", " + what + ")", one.bars(n, what), other.bars(n, what));
                due("scale(" + set + ", " + what + ")", one.scale(set, what), other.scale(set, what));
                break;
            default: {
                int a = any(1, random.nextBoolean() ? 999 : 30);
                int b = any(1, 999);
                due("game(" + a + ", " + b + ", " + what + ")", one.game(a, b, what), other.game(a, b, what));
            }
        }
    }

    /** Whether the two never differed. */
    private boolean run() {
        int players = random.nextInt(13);
        for (int i = 0; i < players; i++) {
            int l = any(1, 9);
            int e = any(0, 9);
            int x = any(0, 7);
            int y = any(0, 5);
            due("player(" + l + ", " + e + ", " + x + ", " + y + ")", one.player(l, e, x, y), other.player(l, e, x, y));
        }
        while (calls < CALLS && wrong == 0) {
            int dice = random.nextInt(10);
            if (dice < 5) {
                hall();
                asked();
            } else if (dice < 7) {
                told();
            } else {
                thought();
            }
        }
        everything();
        return wrong == 0;
    }

    public static void main(String[] args) {
        int bad = 0;
        long asked = 0;
        for (int seed = 1; seed <= RUNS && bad < 3; seed++) {
            ModelRuns runs = new ModelRuns(seed);
            if (!runs.run()) {
                bad++;
                System.out.println("run " + seed + " went wrong");
            }
            asked += runs.calls;
        }
        System.out.println(asked + " answers in " + RUNS + " runs, " + bad + " runs not as due");
        if (bad != 0) {
            System.exit(1);
        }
    }
}
