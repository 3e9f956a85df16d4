import java.math.BigInteger;
import java.util.ArrayDeque;
import java.util.ArrayList;
import java.util.Collections;
import java.util.Deque;
import java.util.HashMap;
import java.util.HashSet;
import java.util.List;
import java.util.Map;
import java.util.NoSuchElementException;
import java.util.Random;
import java.util.Set;
import java.util.TreeMap;
import java.util.TreeSet;

/**
 * Random runs of calls against a second reading of the document, written without regard to speed
 * or room. Arguments: how many runs, the first run's number.
 */
public final class ModelTest {
    // ---- the second reading ----

    static final class Fault extends RuntimeException {
        final int code;
        final int place;

        Fault(int code, int place) {
            this.code = code;
            this.place = place;
        }
    }

    interface Names {
        long of(String name);
    }

    /** An expression; null is an ERROR. */
    interface Formula {
        BigInteger work(Names names);
    }

    static final class Lexeme {
        final String text;
        final int place;

        Lexeme(String text, int place) {
            this.text = text;
            this.place = place;
        }
    }

    static final Set<String> RESERVED = Set.of("node", "link", "meet", "source", "join", "leave", "cut", "mend",
        "send", "hold", "loss", "seed", "law", "metric", "switch", "keep", "or", "and", "not", "far", "place",
        "heard", "twice", "held", "tree", "tick");
    static final Set<String> NAMES = Set.of("far", "place", "heard", "twice", "held", "tree", "tick");
    static final Set<String> COMPARISONS = Set.of("<", "<=", "=", "<>", ">=", ">");
    static final BigInteger LIMIT = BigInteger.TEN.pow(12);

    static final class Wire {
        int cost;
        TreeSet<Integer> nodes = new TreeSet<>();
    }

    static final class Happening {
        String what;
        int who;
        int tick;
    }

    static final class Told {
        List<String> nodes = new ArrayList<>();
        List<Wire> links = new ArrayList<>();
        int meet = -1;
        List<String> sources = new ArrayList<>();
        List<Integer> sourceAt = new ArrayList<>();
        List<Happening> events = new ArrayList<>();
        List<Happening> sends = new ArrayList<>();
        int hold = -1;
        int loss = -1;
        int seed = -1;
        Map<String, Formula> laws = new HashMap<>();
        int knots = 0;
        int lines = 0;

        int meeting() {
            return meet < 0 ? 0 : meet;
        }

        int hold() {
            return hold < 0 ? 4 : hold;
        }

        int loss() {
            return Math.max(loss, 0);
        }

        int root(int tree) {
            return tree == 0 ? meeting() : sourceAt.get(tree - 1);
        }

        /** Distances of all from all by Floyd and Warshall. */
        int[][] distances(Set<Integer> cut, int other, int cost) {
            int n = nodes.size();
            int[][] d = new int[n][n];
            for (int i = 0; i < n; i++) {
                for (int j = 0; j < n; j++) {
                    d[i][j] = i == j ? 0 : 99;
                }
            }
            for (int l = 0; l < links.size(); l++) {
                if (!cut.contains(l)) {
                    for (int i : links.get(l).nodes) {
                        for (int j : links.get(l).nodes) {
                            d[i][j] = Math.min(d[i][j], i == j ? 0 : l == other ? cost : links.get(l).cost);
                        }
                    }
                }
            }
            for (int k = 0; k < n; k++) {
                for (int i = 0; i < n; i++) {
                    for (int j = 0; j < n; j++) {
                        d[i][j] = Math.min(d[i][j], d[i][k] + d[k][j]);
                    }
                }
            }
            return d;
        }
    }

    static final class Parser {
        final List<Lexeme> lexemes = new ArrayList<>();
        final Told told = new Told();
        int at = 0;
        int length;

        Parser(byte[] bytes, int n) {
            length = n;
            int i = 0;
            while (i < n) {
                int c = bytes[i] & 255;
                int from = i;
                if (c == 10 || c == 32) {
                    i++;
                    continue;
                }
                if (small(c)) {
                    while (i < n && small(bytes[i])) {
                        i++;
                    }
                } else if (digit(c)) {
                    while (i < n && digit(bytes[i])) {
                        i++;
                    }
                } else if ((c == '<' || c == '>') && i + 1 < n && bytes[i + 1] == '=') {
                    i += 2;
                } else if (c == '<' && i + 1 < n && bytes[i + 1] == '>') {
                    i += 2;
                } else {
                    i++;
                }
                StringBuilder text = new StringBuilder();
                for (int k = from; k < i; k++) {
                    text.append((char) (bytes[k] & 255));
                }
                lexemes.add(new Lexeme(text.toString(), from));
            }
        }

        static boolean small(int c) {
            return c >= 'a' && c <= 'z';
        }

        static boolean digit(int c) {
            return c >= '0' && c <= '9';
        }

        String peek() {
            return at < lexemes.size() ? lexemes.get(at).text : "";
        }

        int place() {
            return at < lexemes.size() ? lexemes.get(at).place : length;
        }

        Fault fault(int code) {
            return new Fault(code, place());
        }

        void need(boolean holds, int code) {
            if (!holds) {
                throw fault(code);
            }
        }

        void semicolon() {
            need(peek().equals(";"), 1);
            at++;
        }

        boolean isW() {
            return !peek().isEmpty() && small(peek().charAt(0)) && peek().length() <= 6 && !RESERVED.contains(peek());
        }

        boolean isN() {
            return !peek().isEmpty() && digit(peek().charAt(0));
        }

        int n(int from, int to) {
            need(isN(), 1);
            BigInteger value = new BigInteger(peek());
            need(value.compareTo(BigInteger.valueOf(from)) >= 0 && value.compareTo(BigInteger.valueOf(to)) <= 0, 2);
            at++;
            return value.intValue();
        }

        int old(List<String> names) {
            need(isW(), 1);
            int i = names.indexOf(peek());
            need(i >= 0, 4);
            at++;
            return i;
        }

        void fresh(List<String> names) {
            need(isW(), 1);
            need(!names.contains(peek()), 3);
            names.add(peek());
            at++;
        }

        Told parse() {
            while (at < lexemes.size()) {
                line();
                semicolon();
                told.lines++;
            }
            return told;
        }

        void line() {
            String word = peek();
            switch (word) {
                case "node" -> {
                    need(told.nodes.size() < 7, 2);
                    at++;
                    fresh(told.nodes);
                }
                case "link" -> link();
                case "meet" -> {
                    need(told.meet < 0, 3);
                    at++;
                    told.meet = old(told.nodes);
                }
                case "source" -> {
                    need(told.sources.size() < 3, 2);
                    at++;
                    fresh(told.sources);
                    told.sourceAt.add(old(told.nodes));
                }
                case "join", "leave", "cut", "mend" -> {
                    need(told.events.size() < 16, 2);
                    at++;
                    Happening h = new Happening();
                    h.what = word;
                    if (word.equals("join") || word.equals("leave")) {
                        h.who = old(told.nodes);
                    } else {
                        int before = at;
                        h.who = n(0, 7);
                        at = before;
                        need(h.who < told.links.size(), 4);
                        at++;
                    }
                    h.tick = n(0, 99);
                    told.events.add(h);
                }
                case "send" -> {
                    need(told.sends.size() < 14, 2);
                    at++;
                    Happening h = new Happening();
                    h.who = old(told.sources);
                    h.tick = n(0, 99);
                    told.sends.add(h);
                }
                case "hold" -> {
                    need(told.hold < 0, 3);
                    at++;
                    told.hold = n(1, 20);
                }
                case "loss" -> {
                    need(told.loss < 0, 3);
                    at++;
                    told.loss = n(0, 100);
                }
                case "seed" -> {
                    need(told.seed < 0, 3);
                    at++;
                    told.seed = n(0, 99999);
                }
                case "law" -> {
                    at++;
                    String law = peek();
                    need(law.equals("metric") || law.equals("switch") || law.equals("keep"), 1);
                    need(!told.laws.containsKey(law), 3);
                    at++;
                    told.laws.put(law, e(0));
                }
                default -> throw fault(1);
            }
        }

        void link() {
            need(told.links.size() < 8, 2);
            at++;
            Wire wire = new Wire();
            wire.cost = n(1, 9);
            while (true) {
                if (wire.nodes.size() >= 2 && !isW()) {
                    break;
                }
                need(isW(), 1);
                need(wire.nodes.size() < 4, 2);
                int i = told.nodes.indexOf(peek());
                need(!wire.nodes.contains(i), 3);
                need(i >= 0, 4);
                at++;
                wire.nodes.add(i);
            }
            told.links.add(wire);
        }

        void knot() {
            need(told.knots < 64, 2);
            told.knots++;
            at++;
        }

        Formula e(int open) {
            Formula left = a(open);
            while (peek().equals("or")) {
                knot();
                left = both("or", left, a(open));
            }
            return left;
        }

        Formula a(int open) {
            Formula left = b(open);
            while (peek().equals("and")) {
                knot();
                left = both("and", left, b(open));
            }
            return left;
        }

        Formula b(int open) {
            if (peek().equals("not")) {
                knot();
                Formula inner = b(open);
                return names -> {
                    BigInteger v = inner.work(names);
                    return v == null ? null : v.signum() == 0 ? BigInteger.ONE : BigInteger.ZERO;
                };
            }
            return c(open);
        }

        Formula c(int open) {
            Formula left = s(open);
            if (COMPARISONS.contains(peek())) {
                String sign = peek();
                knot();
                return both(sign, left, s(open));
            }
            return left;
        }

        Formula s(int open) {
            Formula left = t(open);
            while (peek().equals("+") || peek().equals("-")) {
                String sign = peek();
                knot();
                left = both(sign, left, t(open));
            }
            return left;
        }

        Formula t(int open) {
            Formula left = p(open);
            while (peek().equals("*") || peek().equals("/")) {
                String sign = peek();
                knot();
                left = both(sign, left, p(open));
            }
            return left;
        }

        Formula p(int open) {
            if (peek().equals("(")) {
                need(open < 8, 2);
                at++;
                Formula inner = e(open + 1);
                need(peek().equals(")"), 1);
                at++;
                return inner;
            }
            if (isN()) {
                BigInteger value = new BigInteger(peek());
                need(value.compareTo(BigInteger.valueOf(9999)) <= 0, 2);
                knot();
                return names -> value;
            }
            String name = peek();
            need(NAMES.contains(name), 1);
            knot();
            return names -> BigInteger.valueOf(names.of(name));
        }

        static BigInteger truth(boolean b) {
            return b ? BigInteger.ONE : BigInteger.ZERO;
        }

        static Formula both(String sign, Formula left, Formula right) {
            return names -> {
                BigInteger x = left.work(names);
                BigInteger y = right.work(names);
                if (x == null || y == null) {
                    return null;
                }
                BigInteger v = switch (sign) {
                    case "or" -> truth(x.signum() != 0 || y.signum() != 0);
                    case "and" -> truth(x.signum() != 0 && y.signum() != 0);
                    case "<" -> truth(x.compareTo(y) < 0);
                    case "<=" -> truth(x.compareTo(y) <= 0);
                    case "=" -> truth(x.equals(y));
                    case "<>" -> truth(!x.equals(y));
                    case ">=" -> truth(x.compareTo(y) >= 0);
                    case ">" -> truth(x.compareTo(y) > 0);
                    case "+" -> x.add(y);
                    case "-" -> x.subtract(y);
                    case "*" -> x.multiply(y);
                    default -> y.signum() == 0 ? null : x.divide(y);
                };
                return v == null || v.abs().compareTo(LIMIT) > 0 ? null : v;
            };
        }
    }

    record Spot(int tree, int node, int link) implements Comparable<Spot> {
        public int compareTo(Spot o) {
            return Integer.compare(tree * 100 + node * 10 + link, o.tree * 100 + o.node * 10 + o.link);
        }
    }

    static final class World {
        final Told told;
        int tick = 0;
        TreeSet<Integer> listeners = new TreeSet<>();
        TreeSet<Integer> cut = new TreeSet<>();
        Set<String> switched = new HashSet<>();
        TreeMap<Spot, Integer> held = new TreeMap<>();
        int[] heard;
        int[] twice;
        int[] missed;
        int registers = 0;
        int suppressed = 0;
        int asserts = 0;
        long random;

        // How it goes on from here.
        boolean numbers = false;
        boolean nothingComes = false;
        int trial = -1;
        int trialNode = -1;

        World(Told told) {
            this.told = told;
            heard = new int[told.nodes.size()];
            twice = new int[told.nodes.size()];
            missed = new int[told.nodes.size()];
            random = Math.max(told.seed, 0);
        }

        World copy() {
            World w = new World(told);
            w.tick = tick;
            w.listeners = new TreeSet<>(listeners);
            w.cut = new TreeSet<>(cut);
            w.switched = new HashSet<>(switched);
            w.held = new TreeMap<>(held);
            w.heard = heard.clone();
            w.twice = twice.clone();
            w.missed = missed.clone();
            w.registers = registers;
            w.suppressed = suppressed;
            w.asserts = asserts;
            w.random = random;
            return w;
        }

        int trees() {
            return 1 + told.sources.size();
        }

        int far(int tree, int node) {
            return told.distances(cut, -1, 0)[told.root(tree)][node];
        }

        int heldAt(int tree, int node, int link) {
            return held.getOrDefault(new Spot(tree, node, link), 0);
        }

        int heldLinks(int tree, int node) {
            int n = 0;
            for (int l = 0; l < told.links.size(); l++) {
                if (heldAt(tree, node, l) > 0) {
                    n++;
                }
            }
            return n;
        }

        Long law(String which, int tree, int node) {
            Formula f = told.laws.get(which);
            if (f == null) {
                return null;
            }
            BigInteger v = f.work(name -> switch (name) {
                case "far" -> far(tree, node);
                case "place" -> node;
                case "heard" -> heard[node];
                case "twice" -> twice[node];
                case "held" -> heldLinks(tree, node);
                case "tree" -> tree;
                default -> tick;
            });
            return v == null ? null : v.longValueExact();
        }

        /** LINK and NODE, or null. */
        int[] up(int tree, int node) {
            if (node == told.root(tree) || far(tree, node) == 99) {
                return null;
            }
            int[] dist = told.distances(cut, -1, 0)[told.root(tree)];
            for (int l = 0; l < told.links.size(); l++) {
                Wire w = told.links.get(l);
                if (cut.contains(l) || !w.nodes.contains(node)) {
                    continue;
                }
                int best = -1;
                long bestValue = 0;
                for (int o : w.nodes) {
                    if (o != node && dist[o] + w.cost == dist[node]) {
                        Long m = law("metric", tree, o);
                        long v = m == null ? dist[o] : m;
                        if (best < 0 || v < bestValue) {
                            best = o;
                            bestValue = v;
                        }
                    }
                }
                if (best >= 0) {
                    return new int[] {l, best};
                }
            }
            return null;
        }

        boolean wants(int tree, int node) {
            if (heldLinks(tree, node) > 0) {
                return true;
            }
            if (tree == 0) {
                return listeners.contains(node);
            }
            if (listeners.contains(node) && switched.contains(node + ">" + (tree - 1))) {
                return true;
            }
            return node == told.meeting() && wants(0, node);
        }

        void stop(int node) {
            listeners.remove(node);
            switched.removeIf(x -> x.startsWith(node + ">"));
        }

        void go() {
            if (!nothingComes) {
                for (Happening h : told.events) {
                    if (h.tick == tick) {
                        switch (h.what) {
                            case "join" -> {
                                if (trial != 2 || trialNode != h.who) {
                                    listeners.add(h.who);
                                }
                            }
                            case "leave" -> stop(h.who);
                            case "cut" -> {
                                if (trial != 3) {
                                    cut.add(h.who);
                                }
                            }
                            default -> cut.remove(h.who);
                        }
                    }
                }
            }
            for (Spot s : new ArrayList<>(held.keySet())) {
                held.put(s, held.get(s) - 1);
                if (held.get(s) == 0) {
                    held.remove(s);
                }
            }
            Set<Spot> came = new HashSet<>();
            for (int node = 0; node < told.nodes.size(); node++) {
                for (int tree = 0; tree < trees(); tree++) {
                    if (!wants(tree, node)) {
                        continue;
                    }
                    int[] up = up(tree, node);
                    if (up == null) {
                        continue;
                    }
                    Spot spot = new Spot(tree, up[1], up[0]);
                    if (!came.add(spot)) {
                        suppressed++;
                        continue;
                    }
                    Long keep = trial == 4 ? Long.valueOf(1) : law("keep", tree, up[1]);
                    held.put(spot, keep == null ? told.hold() : keep < 1 ? 1 : keep > 99 ? 99 : (int) (long) keep);
                }
            }
            if (!nothingComes) {
                for (Happening h : told.sends) {
                    if (h.tick == tick) {
                        packet(h.who);
                    }
                }
            }
            tick++;
        }

        boolean lost() {
            int loss = trial == 0 ? 0 : told.loss();
            if (loss == 0) {
                return false;
            }
            if (loss == 100) {
                return true;
            }
            if (!numbers) {
                return loss >= 50;
            }
            random = (random * 1103515245L + 12345L) % (1L << 31);
            return random / 65536 % 100 < loss;
        }

        Set<Integer> down(int tree, int start, int source, Set<Integer> cameOwn) {
            Set<Integer> came = new TreeSet<>();
            came.add(start);
            Set<Integer> round = new TreeSet<>(came);
            Map<Integer, Integer> sender = new HashMap<>();
            while (!round.isEmpty()) {
                Set<Integer> next = new TreeSet<>();
                for (int node : round) {
                    for (int l = 0; l < told.links.size(); l++) {
                        if (cut.contains(l) || heldAt(tree, node, l) == 0) {
                            continue;
                        }
                        if (sender.containsKey(l)) {
                            asserts++;
                            continue;
                        }
                        sender.put(l, node);
                        if (lost()) {
                            continue;
                        }
                        for (int o : told.links.get(l).nodes) {
                            int[] up = up(tree, o);
                            if (up == null || up[0] != l || up[1] != node || came.contains(o)) {
                                continue;
                            }
                            if (tree == 0 && switched.contains(o + ">" + source) && cameOwn.contains(o)) {
                                continue;
                            }
                            came.add(o);
                            next.add(o);
                        }
                    }
                }
                round = next;
            }
            return came;
        }

        int packet(int source) {
            int tree = source + 1;
            Set<Integer> own = down(tree, told.root(tree), source, Set.of());
            int meeting = told.meeting();
            boolean there = own.contains(meeting);
            if (!there && far(tree, meeting) < 99) {
                registers++;
                there = true;
            }
            Set<Integer> shared = there ? down(0, meeting, source, own) : Set.of();
            int bits = 0;
            for (int node : listeners) {
                boolean a = own.contains(node);
                boolean b = shared.contains(node);
                if (a || b) {
                    heard[node]++;
                    bits |= 1 << node;
                } else {
                    missed[node]++;
                }
                if (a && b) {
                    twice[node]++;
                }
            }
            if (trial != 1) {
                for (int node : listeners) {
                    if (shared.contains(node) && !switched.contains(node + ">" + source)) {
                        Long e = law("switch", tree, node);
                        if (e == null || e != 0) {
                            switched.add(node + ">" + source);
                        }
                    }
                }
            }
            return bits;
        }

        int all(int[] row) {
            int sum = 0;
            for (int x : row) {
                sum += x;
            }
            return sum;
        }
    }

    static final class Noted {
        int strikes = -1;
        int from;
        int to;
        int far;
        boolean atMost;
    }

    static final class Model {
        byte[] tape = new byte[0];
        int fault = 0;
        int faultPlace = -1;
        Told told = new Told();
        World now = new World(told);
        World image = null;
        Deque<World> past = new ArrayDeque<>();
        List<Noted> notes = new ArrayList<>();
        int known = -1;

        boolean isNode(int n) {
            return n >= 0 && n < told.nodes.size();
        }

        boolean isTree(int n) {
            return n >= 0 && n < now.trees();
        }

        boolean isLink(int n) {
            return n >= 0 && n < told.links.size();
        }

        boolean isSource(int n) {
            return n >= 0 && n < told.sources.size();
        }

        int feed(int a, int b, int c, int d, int e) {
            if (tape.length + 20 > 700) {
                return -1;
            }
            byte[] more = java.util.Arrays.copyOf(tape, tape.length + 20);
            int[] five = {a, b, c, d, e};
            for (int i = 0; i < 20; i++) {
                more[tape.length + i] = (byte) (five[i / 4] >>> 24 - i % 4 * 8);
            }
            tape = more;
            return tape.length;
        }

        int text(int n) {
            if (n < 0 || n > tape.length) {
                return -2;
            }
            byte[] bytes = tape;
            tape = new byte[0];
            Told t;
            try {
                t = new Parser(bytes, n).parse();
            } catch (Fault f) {
                fault = f.code;
                faultPlace = f.place;
                return -1;
            }
            fault = 0;
            faultPlace = -1;
            told = t;
            now = new World(t);
            image = null;
            past.clear();
            notes.clear();
            known = -1;
            return t.lines;
        }

        int fault(int what) {
            return what == 0 ? fault : what == 1 ? faultPlace : -1;
        }

        int named(int what, int letters) {
            if (what != 0 && what != 1) {
                return -1;
            }
            List<String> names = what == 0 ? told.nodes : told.sources;
            for (int i = 0; i < names.size(); i++) {
                long code = 0;
                for (int k = 0; k < 6; k++) {
                    code = code * 32 + (k < names.get(i).length() ? names.get(i).charAt(k) - 96 : 0);
                }
                if (code == letters) {
                    return i;
                }
            }
            return -1;
        }

        int node(int node, int what) {
            if (!isNode(node)) {
                throw new IndexOutOfBoundsException();
            }
            int bits = 0;
            for (int s = 0; s < 3; s++) {
                bits += now.switched.contains(node + ">" + s) ? 1 << s : 0;
            }
            return switch (what) {
                case 0 -> now.listeners.contains(node) ? 1 : 0;
                case 1 -> bits;
                case 2 -> now.heard[node];
                case 3 -> now.twice[node];
                case 4 -> now.missed[node];
                default -> throw new NoSuchElementException();
            };
        }

        static int bits(Iterable<Integer> of) {
            int b = 0;
            for (int i : of) {
                b |= 1 << i;
            }
            return b;
        }

        int link(int link, int what) {
            if (!isLink(link)) {
                return -1;
            }
            return switch (what) {
                case 0 -> told.links.get(link).cost;
                case 1 -> bits(told.links.get(link).nodes);
                case 2 -> now.cut.contains(link) ? 1 : 0;
                default -> -1;
            };
        }

        int far(int tree, int node) {
            return isTree(tree) && isNode(node) ? now.far(tree, node) : -1;
        }

        int up(int tree, int node, int what) {
            if (!isTree(tree) || !isNode(node) || what != 0 && what != 1) {
                return -1;
            }
            int[] up = now.up(tree, node);
            return up == null ? -2 : up[what];
        }

        int held(int tree, int node, int link) {
            return isTree(tree) && isNode(node) && isLink(link) ? now.heldAt(tree, node, link) : -1;
        }

        int wants(int tree, int node) {
            return isTree(tree) && isNode(node) ? now.wants(tree, node) ? 1 : 0 : -1;
        }

        long law(int what, int tree, int node) {
            if (what < 0 || what > 2 || !isTree(tree) || !isNode(node) || what == 1 && tree == 0) {
                return Long.MIN_VALUE;
            }
            Long v = now.law(new String[] {"metric", "switch", "keep"}[what], tree, node);
            return v == null ? Long.MIN_VALUE : v;
        }

        void remember() {
            past.push(now.copy());
            if (past.size() > 20) {
                past.removeLast();
            }
        }

        int listen(int node) {
            if (!isNode(node)) {
                return -1;
            }
            remember();
            if (now.listeners.contains(node)) {
                now.stop(node);
                return 0;
            }
            now.listeners.add(node);
            return 1;
        }

        int cut(int link) {
            if (!isLink(link)) {
                return -1;
            }
            remember();
            if (now.cut.remove(link)) {
                return 0;
            }
            now.cut.add(link);
            return 1;
        }

        int send(int source) {
            if (!isSource(source)) {
                return -1;
            }
            remember();
            return now.packet(source);
        }

        int go(int n) {
            if (n < 0 || n > 200 || now.tick + n > 9000) {
                return -1;
            }
            if (n > 0) {
                past.clear();
            }
            now.numbers = true;
            for (int i = 0; i < n; i++) {
                now.go();
            }
            now.numbers = false;
            return now.tick;
        }

        int ahead(int n, int what) {
            if (n < 0 || n > 60 || what < 0 || what > 4) {
                return -1;
            }
            World w = now.copy();
            for (int i = 0; i < n; i++) {
                w.go();
            }
            return switch (what) {
                case 0 -> w.all(w.heard) - w.all(now.heard);
                case 1 -> w.all(w.twice) - w.all(now.twice);
                case 2 -> w.all(w.missed) - w.all(now.missed);
                case 3 -> w.registers - now.registers;
                default -> w.suppressed - now.suppressed;
            };
        }

        int quiet(int tree) {
            if (!isTree(tree)) {
                return -1;
            }
            World w = now.copy();
            w.nothingComes = true;
            w.listeners.clear();
            w.switched.clear();
            for (int i = 0; i <= 99; i++) {
                if (w.held.keySet().stream().noneMatch(s -> s.tree() == tree)) {
                    return i;
                }
                w.go();
            }
            return -2;
        }

        int settled() {
            World w = now.copy();
            w.nothingComes = true;
            for (int i = 0; i <= 99; i++) {
                boolean all = true;
                for (int node = 0; node < told.nodes.size(); node++) {
                    for (int tree = 0; tree < w.trees(); tree++) {
                        int[] up = w.up(tree, node);
                        all &= !w.wants(tree, node) || up == null || w.heldAt(tree, up[1], up[0]) > 0;
                    }
                }
                if (all) {
                    return i;
                }
                w.go();
            }
            return -2;
        }

        int way(int tree, int node) {
            if (!isTree(tree) || !isNode(node)) {
                return -1;
            }
            if (now.far(tree, node) == 99) {
                return -2;
            }
            int bits = 1 << node;
            int at = node;
            while (at != told.root(tree)) {
                at = now.up(tree, at)[1];
                bits |= 1 << at;
            }
            return bits;
        }

        int best(int what) {
            if (what != 0 && what != 1) {
                return -1;
            }
            if (told.nodes.isEmpty()) {
                return -2;
            }
            int[][] d = told.distances(now.cut, -1, 0);
            List<Integer> sums = new ArrayList<>();
            for (int[] from : d) {
                int sum = 0;
                for (int l : now.listeners) {
                    sum += from[l];
                }
                sums.add(sum);
            }
            int least = Collections.min(sums);
            return what == 0 ? sums.indexOf(least) : least;
        }

        int least(int source, int what) {
            if (!isSource(source) || what != 0 && what != 1) {
                return -1;
            }
            int best = -1;
            int cost = 0;
            for (int bits = (1 << told.links.size()) - 1; bits >= 0; bits--) {
                Set<Integer> out = new HashSet<>();
                int sum = 0;
                boolean whole = true;
                for (int l = 0; l < told.links.size(); l++) {
                    if ((bits & 1 << l) == 0) {
                        out.add(l);
                    } else {
                        sum += told.links.get(l).cost;
                        whole &= !now.cut.contains(l);
                    }
                }
                if (!whole) {
                    continue;
                }
                int[] d = told.distances(out, -1, 0)[told.sourceAt.get(source)];
                boolean together = true;
                for (int l : now.listeners) {
                    together &= d[l] < 99;
                }
                if (together && (best < 0 || sum <= cost)) {
                    best = bits;
                    cost = sum;
                }
            }
            return best < 0 ? -2 : what == 0 ? best : cost;
        }

        int needed(int tree) {
            if (!isTree(tree)) {
                return -1;
            }
            int bits = 0;
            for (int l = 0; l < told.links.size(); l++) {
                if (now.cut.contains(l)) {
                    continue;
                }
                Set<Integer> cut = new HashSet<>(now.cut);
                cut.add(l);
                int[] d = told.distances(cut, -1, 0)[told.root(tree)];
                for (int n : now.listeners) {
                    if (now.far(tree, n) < 99 && d[n] == 99) {
                        bits |= 1 << l;
                    }
                }
            }
            return bits;
        }

        int wide(int tree) {
            if (!isTree(tree)) {
                return -1;
            }
            int most = 0;
            for (int n = 0; n < told.nodes.size(); n++) {
                if (now.far(tree, n) != 99) {
                    most = Math.max(most, now.far(tree, n));
                }
            }
            return most;
        }

        int used(int tree) {
            if (!isTree(tree)) {
                return -1;
            }
            Set<Integer> links = new HashSet<>();
            for (Spot s : now.held.keySet()) {
                if (s.tree() == tree) {
                    links.add(s.link());
                }
            }
            return bits(links);
        }

        List<Integer> restList(int tree, int one, int other) {
            int f = now.far(tree, one);
            int g = now.far(tree, other);
            int[][] first = {{Math.max(0, 9 - f) / 2, Math.max(0, 10 - f)}, {3, 0}};
            int[][] second = {{Math.max(0, 9 - g) / 2, 3}, {Math.max(0, 10 - g), 0}};
            List<Integer> rests = new ArrayList<>();
            for (int a = 0; a < 2; a++) {
                for (int b = 0; b < 2; b++) {
                    if (first[1 - a][b] <= first[a][b] && second[a][1 - b] <= second[a][b]) {
                        rests.add(10 * a + b);
                    }
                }
            }
            return rests;
        }

        int rests(int tree, int one, int other) {
            if (!isTree(tree) || !isNode(one) || !isNode(other) || one == other) {
                return -1;
            }
            return restList(tree, one, other).size();
        }

        int rest(int tree, int one, int other, int k) {
            if (rests(tree, one, other) < 0 || k < 0) {
                return -1;
            }
            List<Integer> list = restList(tree, one, other);
            return k < list.size() ? list.get(k) : -2;
        }

        long holds(int n, int what) {
            if (n < 0 || n > 6 || what != 0 && what != 1) {
                return -1;
            }
            BigInteger a = BigInteger.valueOf(100 - told.loss()).pow(n);
            BigInteger b = BigInteger.valueOf(100).pow(n);
            BigInteger g = a.gcd(b);
            return (what == 0 ? a : b).divide(g).longValueExact();
        }

        int note(int from, int to, int far, boolean atMost) {
            if (!isNode(from) || !isNode(to) || from == to || far < 0 || far > 99 || notes.size() == 24) {
                return -1;
            }
            Noted n = new Noted();
            n.from = from;
            n.to = to;
            n.far = far;
            n.atMost = atMost;
            notes.add(n);
            return notes.size() - 1;
        }

        int strike(int note) {
            if (note < 0 || note >= notes.size() || notes.size() == 24) {
                return -1;
            }
            Noted n = new Noted();
            n.strikes = note;
            notes.add(n);
            return notes.size() - 1;
        }

        boolean known(int n) {
            if (n < -1 || n > notes.size()) {
                return false;
            }
            known = n;
            return true;
        }

        boolean counts(int i, int n) {
            for (int j = i + 1; j < n; j++) {
                if (notes.get(j).strikes == i && counts(j, n)) {
                    return false;
                }
            }
            return true;
        }

        List<Integer> fitting(int link) {
            int n = known < 0 ? notes.size() : known;
            List<Integer> fit = new ArrayList<>();
            for (int cost = 1; cost <= 9; cost++) {
                int[][] d = told.distances(Set.of(), link, cost);
                boolean ok = true;
                for (int i = 0; i < n; i++) {
                    Noted x = notes.get(i);
                    if (x.strikes < 0 && counts(i, n)) {
                        ok &= x.atMost ? d[x.from][x.to] <= x.far : d[x.from][x.to] > x.far;
                    }
                }
                if (ok) {
                    fit.add(cost);
                }
            }
            return fit;
        }

        int costs(int link) {
            if (!isLink(link)) {
                return -1;
            }
            int bits = 0;
            for (int c : fitting(link)) {
                bits |= 1 << c - 1;
            }
            return bits;
        }

        int ask(int link, int what) {
            if (!isLink(link) || what < 0 || what > 2) {
                return -1;
            }
            int[] best = null;
            for (int a = 0; a < told.nodes.size(); a++) {
                for (int b = a + 1; b < told.nodes.size(); b++) {
                    Map<Integer, Integer> classes = new HashMap<>();
                    for (int c : fitting(link)) {
                        classes.merge(told.distances(Set.of(), link, c)[a][b], 1, Integer::sum);
                    }
                    int worst = classes.isEmpty() ? 0 : Collections.max(classes.values());
                    if (best == null || worst < best[2]) {
                        best = new int[] {a, b, worst};
                    }
                }
            }
            return best == null ? -2 : best[what];
        }

        int chance(int seed, int n, int node, int heard) {
            if (seed < 0 || n < 1 || n > 40 || !isNode(node) || heard < 0 || heard > 99) {
                return -1;
            }
            long random = seed;
            int times = 0;
            for (int i = 0; i < 10; i++) {
                World w = now.copy();
                w.numbers = true;
                w.random = random;
                for (int k = 0; k < n; k++) {
                    w.go();
                }
                random = w.random;
                times += w.heard[node] >= heard ? 1 : 0;
            }
            return times;
        }

        int tried(int what, int i, int n) {
            if (what < 0 || what > 4 || n < 0 || n > 60 || (what == 2 ? !isNode(i) : i != 0)) {
                return -1;
            }
            World w = now.copy();
            w.trial = what;
            w.trialNode = i;
            if (what == 2) {
                w.stop(i);
            }
            for (int k = 0; k < n; k++) {
                w.go();
            }
            return w.all(w.heard) - w.all(now.heard);
        }

        int undo() {
            if (past.isEmpty()) {
                return -1;
            }
            now = past.pop();
            return past.size();
        }

        int keep() {
            image = now.copy();
            return now.tick;
        }

        int back() {
            if (image == null) {
                return -1;
            }
            now = image.copy();
            past.clear();
            return now.tick;
        }

        int count(int what) {
            return switch (what) {
                case 0 -> told.nodes.size();
                case 1 -> told.links.size();
                case 2 -> told.sources.size();
                case 3 -> told.knots;
                case 4 -> now.tick;
                case 5 -> now.listeners.size();
                case 6 -> now.all(now.heard);
                case 7 -> now.all(now.twice);
                case 8 -> now.all(now.missed);
                case 9 -> now.registers;
                case 10 -> now.suppressed;
                case 11 -> now.asserts;
                case 12 -> now.held.size();
                case 13 -> told.nodes.isEmpty() ? -2 : told.meeting();
                case 14 -> notes.size();
                case 15 -> known < 0 ? notes.size() : known;
                case 16 -> past.size();
                default -> -1;
            };
        }
    }

    // ---- random texts and calls ----

    static final String[] NODE_NAMES = {"a", "b", "c", "d", "e", "f", "g", "h", "nodes", "far", "abcdef", "zzzzzz", "toolong"};
    // Laws that change from TICK to TICK, so that UP wanders and two hold the same LINK.
    static final String[] LIVELY = {"9 - place * tick", "place * (tick - 3)", "0 - held", "(tick + place) / 2 = 2",
        "heard * 3 - place", "tick / 2 * 2 = tick and place > 1", "twice", "1 / (tick - 2)", "heard > 1", "held + 1",
        "9999 * 9999 * 9999 * tick", "far - tree", "not held"};
    static final String[] SOURCE_NAMES = {"s", "t", "u", "a", "v"};

    static final class Writer {
        final Random r;
        final StringBuilder out = new StringBuilder();
        final List<String> nodes = new ArrayList<>();
        final List<String> sources = new ArrayList<>();
        int links = 0;

        Writer(Random r) {
            this.r = r;
        }

        String blank() {
            return r.nextInt(12) == 0 ? r.nextBoolean() ? "\n" : "  " : " ";
        }

        void line(String... words) {
            out.append(String.join(blank(), words)).append(r.nextInt(15) == 0 ? " ;" : ";");
            if (r.nextInt(15) == 0) {
                out.append(blank());
            }
        }

        String node() {
            return nodes.isEmpty() ? "a" : nodes.get(r.nextInt(nodes.size()));
        }

        String number(int from, int to) {
            return (r.nextInt(40) == 0 ? "0" : "") + (from + r.nextInt(to - from + 1));
        }

        String write() {
            int count = r.nextInt(60) == 0 ? 8 : r.nextInt(30) == 0 ? r.nextInt(3) : 3 + r.nextInt(5);
            for (int i = 0; i < count; i++) {
                String name = NODE_NAMES[i < 7 && r.nextInt(40) > 0 ? i : r.nextInt(NODE_NAMES.length)];
                nodes.add(name);
                line("node", name);
            }
            int wires = count < 2 ? 0 : r.nextInt(60) == 0 ? 9 : 1 + r.nextInt(8);
            int top = r.nextInt(3) == 0 ? 9 : 2;
            for (int i = 0; i < wires; i++) {
                wire(top);
            }
            if (r.nextInt(3) > 0 && count > 0) {
                line("meet", node());
            }
            int senders = count == 0 ? 0 : r.nextInt(80) == 0 ? 4 : r.nextInt(4);
            for (int i = 0; i < senders; i++) {
                String name = SOURCE_NAMES[r.nextInt(30) == 0 ? r.nextInt(5) : i];
                sources.add(name);
                line("source", name, node());
            }
            happenings();
            if (r.nextInt(2) == 0) {
                line("hold", number(1, r.nextInt(3) == 0 ? 20 : 4));
            }
            if (r.nextInt(2) == 0) {
                line("loss", r.nextInt(4) == 0 ? "100" : number(0, r.nextInt(50) == 0 ? 101 : 99));
            }
            if (r.nextInt(2) == 0) {
                line("seed", number(0, 99999));
            }
            for (String law : new String[] {"metric", "switch", "keep"}) {
                if (r.nextInt(2) == 0) {
                    StringBuilder e = new StringBuilder();
                    if (r.nextInt(3) == 0) {
                        e.append(LIVELY[r.nextInt(LIVELY.length)]);
                    } else {
                        formula(e, 0, 1 + r.nextInt(4));
                    }
                    line("law", law, e.toString());
                }
            }
            if (r.nextInt(6) == 0) {
                spoil();
            }
            return out.toString();
        }

        void wire(int top) {
            List<String> words = new ArrayList<>();
            words.add("link");
            words.add(number(1, top));
            List<String> shuffled = new ArrayList<>(nodes);
            Collections.shuffle(shuffled, r);
            int on = Math.min(2 + r.nextInt(3), shuffled.size());
            words.addAll(shuffled.subList(0, on));
            line(words.toArray(new String[0]));
            links++;
        }

        void happenings() {
            int late = r.nextInt(4) == 0 ? 99 : 12;
            int n = r.nextInt(80) == 0 ? 17 : 2 + r.nextInt(9);
            for (int i = 0; i < n && !nodes.isEmpty(); i++) {
                int k = r.nextInt(8);
                if (k < 4) {
                    line("join", node(), number(0, k < 3 ? 3 : late));
                } else if (k == 4) {
                    line("leave", node(), number(0, late));
                } else if (links > 0) {
                    line(k < 7 ? "cut" : "mend", number(0, links - 1), number(0, late));
                }
            }
            n = sources.isEmpty() ? 0 : r.nextInt(80) == 0 ? 15 : r.nextInt(12);
            for (int i = 0; i < n; i++) {
                line("send", sources.get(r.nextInt(sources.size())), number(0, late));
            }
        }

        void formula(StringBuilder e, int level, int depth) {
            String[][] signs = {{"or"}, {"and"}, {}, {"<", "<=", "=", "<>", ">=", ">"}, {"+", "-"}, {"*", "/"}};
            if (level == 6) {
                int k = r.nextInt(6);
                if (k == 0 && depth > 0) {
                    e.append("(");
                    formula(e, 0, depth - 1);
                    e.append(")");
                } else if (k < 3) {
                    e.append(r.nextInt(5) == 0 ? 9999 : r.nextInt(12));
                } else {
                    e.append(new String[] {"far", "place", "heard", "twice", "held", "tree", "tick"}[r.nextInt(7)]);
                }
                return;
            }
            if (level == 2) {
                for (int i = 0; i < 3 && r.nextInt(8) == 0; i++) {
                    e.append("not ");
                }
                formula(e, 3, depth);
                return;
            }
            formula(e, level + 1, depth);
            for (int i = 0; i < (level == 3 ? 1 : 4) && r.nextInt(4) == 0; i++) {
                e.append(" ").append(signs[level][r.nextInt(signs[level].length)]).append(" ");
                formula(e, level + 1, depth);
            }
        }

        void spoil() {
            for (int i = 0; i < 1 + r.nextInt(2); i++) {
                if (out.length() == 0) {
                    return;
                }
                int at = r.nextInt(out.length());
                char[] odd = {';', '(', ')', ' ', '0', '9', 'a', 'z', '<', '>', '=', '#', 'A', (char) 200, '+', '\n', (char) 0};
                switch (r.nextInt(5)) {
                    case 0 -> out.deleteCharAt(at);
                    case 3 -> {
                        String[] lines = out.toString().split(";");
                        Collections.swap(java.util.Arrays.asList(lines), r.nextInt(lines.length), r.nextInt(lines.length));
                        out.setLength(0);
                        out.append(String.join(";", lines)).append(";");
                    }
                    case 1 -> out.insert(at, odd[r.nextInt(odd.length)]);
                    case 2 -> out.setCharAt(at, odd[r.nextInt(odd.length)]);
                    default -> out.insert(at, new ArrayList<>(new TreeSet<>(RESERVED)).get(r.nextInt(26)) + " ");
                }
            }
        }
    }

    interface Call {
        Object answer();
    }

    static Object answer(Call call) {
        try {
            return call.answer();
        } catch (IndexOutOfBoundsException e) {
            return "IndexOutOfBoundsException";
        } catch (NoSuchElementException e) {
            return "NoSuchElementException";
        }
    }

    static final class Run {
        final Random r;
        final GroupTrees real = new GroupTrees();
        final Model model = new Model();
        final StringBuilder log = new StringBuilder();
        int calls = 0;
        boolean wrong = false;

        Run(long seed) {
            r = new Random(seed);
        }

        void same(String name, Call one, Call other) {
            if (wrong) {
                return;
            }
            calls++;
            Object due = answer(other);
            Object got = answer(one);
            log.append(name).append(" -> ").append(due).append('\n');
            if (!due.equals(got)) {
                wrong = true;
                log.append("  BUT THE CLASS ANSWERED ").append(got).append('\n');
            }
        }

        /** Mostly one of those that are there, at times one beside. */
        int pick(int count) {
            int k = r.nextInt(50);
            return k == 0 ? -1 : k == 1 ? count : k == 2 && r.nextInt(3) == 0 ? r.nextInt() : count == 0 ? 0 : r.nextInt(count);
        }

        void tell() {
            String text = new Writer(r).write();
            if (text.length() > 690) {
                text = text.substring(0, 690);
            }
            log.append("TEXT ").append(text).append('\n');
            byte[] bytes = new byte[(text.length() + 19) / 20 * 20];
            for (int i = 0; i < bytes.length; i++) {
                bytes[i] = (byte) (i < text.length() ? text.charAt(i) : ' ');
            }
            for (int i = 0; i < bytes.length; i += 20) {
                int[] w = new int[5];
                for (int k = 0; k < 20; k++) {
                    w[k / 4] = w[k / 4] << 8 | bytes[i + k] & 255;
                }
                same("feed", () -> real.feed(w[0], w[1], w[2], w[3], w[4]), () -> model.feed(w[0], w[1], w[2], w[3], w[4]));
            }
            int n = r.nextInt(25) == 0 ? r.nextInt(text.length() + 30) - 2 : text.length();
            same("text(" + n + ")", () -> real.text(n), () -> model.text(n));
            same("fault(0)", () -> real.fault(0), () -> model.fault(0));
            same("fault(1)", () -> real.fault(1), () -> model.fault(1));
            same("count(3)", () -> real.count(3), () -> model.count(3));
        }

        void play(int steps) {
            tell();
            for (int i = 0; i < 3 && model.told.nodes.isEmpty(); i++) {
                tell();
            }
            for (int i = 0; i < 12 && calls < 200 && !wrong; i++) {
                forecast(pick(model.now.trees()), pick(model.told.nodes.size()));
            }
            for (int i = 0; i < steps && calls < 470 && !wrong; i++) {
                step();
            }
        }

        void step() {
            int t = pick(model.now.trees());
            int n = pick(model.told.nodes.size());
            int m = pick(model.told.nodes.size());
            int l = pick(model.told.links.size());
            int s = pick(model.told.sources.size());
            int k = r.nextInt(100);
            if (k < 12) {
                int g = r.nextInt(40) == 0 ? r.nextInt(204) - 2 : r.nextInt(4);
                same("go(" + g + ")", () -> real.go(g), () -> model.go(g));
            } else if (k < 20) {
                same("listen(" + n + ")", () -> real.listen(n), () -> model.listen(n));
            } else if (k < 23) {
                same("cut(" + l + ")", () -> real.cut(l), () -> model.cut(l));
            } else if (k < 28) {
                same("send(" + s + ")", () -> real.send(s), () -> model.send(s));
            } else if (k < 33) {
                same("undo()", real::undo, model::undo);
            } else if (k < 34) {
                same("keep()", real::keep, model::keep);
            } else if (k < 35) {
                same("back()", real::back, model::back);
            } else if (k < 60) {
                look(t, n, m, l, s);
            } else if (k < 75) {
                noting(n, m, l);
            } else if (k < 90) {
                forecast(t, n);
            } else if (k == 90) {
                if (r.nextInt(4) == 0) {
                    tell();
                }
            } else {
                counts();
            }
        }

        /** So many as the NODE may well hear by then. */
        int likely(int node, int ticks) {
            if (!model.isNode(node)) {
                return 1;
            }
            World w = model.now.copy();
            w.numbers = true;
            for (int i = 0; i < ticks && i < 40; i++) {
                w.go();
            }
            return Math.max(0, w.heard[node] + r.nextInt(2));
        }

        void counts() {
            for (int what = -1; what <= 17; what++) {
                int w = what;
                if (r.nextInt(3) == 0) {
                    same("count(" + w + ")", () -> real.count(w), () -> model.count(w));
                }
            }
        }

        void look(int t, int n, int m, int l, int s) {
            int w = pick(3);
            int x = pick(2);
            int y = pick(5);
            int k = pick(4);
            switch (r.nextInt(17)) {
                case 0 -> same("node(" + n + "," + y + ")", () -> real.node(n, y), () -> model.node(n, y));
                case 1 -> same("link(" + l + "," + w + ")", () -> real.link(l, w), () -> model.link(l, w));
                case 2 -> same("far(" + t + "," + n + ")", () -> real.far(t, n), () -> model.far(t, n));
                case 3 -> same("up(" + t + "," + n + "," + x + ")", () -> real.up(t, n, x), () -> model.up(t, n, x));
                case 4 -> same("held(" + t + "," + n + "," + l + ")", () -> real.held(t, n, l), () -> model.held(t, n, l));
                case 5 -> same("wants(" + t + "," + n + ")", () -> real.wants(t, n), () -> model.wants(t, n));
                case 6 -> same("law(" + w + "," + t + "," + n + ")", () -> real.law(w, t, n), () -> model.law(w, t, n));
                case 7 -> same("way(" + t + "," + n + ")", () -> real.way(t, n), () -> model.way(t, n));
                case 8 -> same("best(" + x + ")", () -> real.best(x), () -> model.best(x));
                case 9 -> same("least(" + s + "," + x + ")", () -> real.least(s, x), () -> model.least(s, x));
                case 10 -> same("needed(" + t + ")", () -> real.needed(t), () -> model.needed(t));
                case 11 -> same("wide(" + t + ")", () -> real.wide(t), () -> model.wide(t));
                case 12 -> same("used(" + t + ")", () -> real.used(t), () -> model.used(t));
                case 13 -> same("rests(" + t + "," + n + "," + m + ")", () -> real.rests(t, n, m), () -> model.rests(t, n, m));
                case 14 -> same("rest(" + t + "," + n + "," + m + "," + k + ")", () -> real.rest(t, n, m, k), () -> model.rest(t, n, m, k));
                case 15 -> same("holds(" + y + "," + x + ")", () -> real.holds(y, x), () -> model.holds(y, x));
                default -> {
                    int letters = 0;
                    String name = r.nextBoolean() ? NODE_NAMES[r.nextInt(12)] : SOURCE_NAMES[r.nextInt(5)];
                    for (int i = 0; i < 6; i++) {
                        letters = letters * 32 + (i < name.length() ? name.charAt(i) - 96 : 0);
                    }
                    int code = letters;
                    same("named(" + x + "," + name + ")", () -> real.named(x, code), () -> model.named(x, code));
                }
            }
        }

        void noting(int n, int m, int l) {
            int notes = model.notes.size();
            switch (r.nextInt(6)) {
                case 0, 1 -> {
                    int far = r.nextInt(30) == 0 ? r.nextInt(104) - 2 : r.nextInt(16);
                    boolean most = r.nextInt(3) > 0;
                    same("note(" + n + "," + m + "," + far + "," + most + ")", () -> real.note(n, m, far, most), () -> model.note(n, m, far, most));
                }
                case 2 -> {
                    int note = pick(notes);
                    same("strike(" + note + ")", () -> real.strike(note), () -> model.strike(note));
                }
                case 3 -> {
                    int by = r.nextInt(notes + 3) - 2;
                    same("known(" + by + ")", () -> real.known(by), () -> model.known(by));
                }
                case 4 -> same("costs(" + l + ")", () -> real.costs(l), () -> model.costs(l));
                default -> {
                    int w = pick(3);
                    same("ask(" + l + "," + w + ")", () -> real.ask(l, w), () -> model.ask(l, w));
                }
            }
        }

        void forecast(int t, int n) {
            int ticks = r.nextInt(10) == 0 ? r.nextInt(64) - 1 : r.nextInt(12);
            int w = pick(5);
            switch (r.nextInt(5)) {
                case 0 -> same("ahead(" + ticks + "," + w + ")", () -> real.ahead(ticks, w), () -> model.ahead(ticks, w));
                case 1 -> same("quiet(" + t + ")", () -> real.quiet(t), () -> model.quiet(t));
                case 2 -> same("settled()", real::settled, model::settled);
                case 3 -> {
                    int seed = r.nextInt(20) == 0 ? -1 : r.nextInt() & Integer.MAX_VALUE;
                    int heard = r.nextInt(40) == 0 ? r.nextInt(103) - 1 : likely(n, ticks);
                    same("chance(" + seed + "," + ticks + "," + n + "," + heard + ")",
                        () -> real.chance(seed, ticks, n, heard), () -> model.chance(seed, ticks, n, heard));
                }
                default -> {
                    int i = w == 2 || r.nextInt(10) == 0 ? n : 0;
                    same("tried(" + w + "," + i + "," + ticks + ")", () -> real.tried(w, i, ticks), () -> model.tried(w, i, ticks));
                }
            }
        }
    }

    public static void main(String[] args) {
        int runs = args.length > 0 ? Integer.parseInt(args[0]) : 1000;
        int first = args.length > 1 ? Integer.parseInt(args[1]) : 1;
        int bad = 0;
        long calls = 0;
        for (int i = first; i < first + runs && bad < 3; i++) {
            Run run = new Run(i);
            run.play(220);
            calls += run.calls;
            if (run.wrong) {
                bad++;
                System.out.println("run " + i + ":\n" + run.log);
            }
        }
        System.out.println(calls + " calls in " + runs + " runs, " + bad + " runs are wrong");
        if (bad > 0) {
            System.exit(1);
        }
    }
}
