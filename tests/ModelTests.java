import java.math.BigInteger;
import java.util.ArrayList;
import java.util.Arrays;
import java.util.List;
import java.util.Map;
import java.util.Random;
import java.util.TreeMap;
import java.util.function.IntUnaryOperator;

/** Long random runs: each answer must be that of a slow, plain model of the document. */
public final class ModelTests {

    static int wrong = 0;
    static long compared = 0;

    public static void main(String[] args) {
        int runs = args.length > 0 ? Integer.parseInt(args[0]) : 1500;
        long seed = args.length > 1 ? Long.parseLong(args[1]) : 1;
        for (int run = 0; run < runs && wrong < 10; run++) {
            new Run(seed * 1000003 + run).go();
        }
        System.out.println(compared + " answers compared with the model, " + wrong + " are otherwise");
        System.out.println("texts (programs, faults, full; wide, void, else; with runs): " + Arrays.toString(Run.seenTexts));
        if (Arrays.stream(Run.seenTexts).anyMatch(n -> n < runs / 50)) {
            System.out.println("the runs are too alike");
            wrong++;
        }
        if (wrong != 0) System.exit(1);
    }

    // ------------------------------------------------------------------ the runs

    static final class Run {
        /** Texts that were PROGRAMS, had a FAULT, were FULL; PROGRAMS that were WIDE, VOID, else; RUNS. */
        static final int[] seenTexts = new int[7];
        final Random random;
        final long seed;
        final ChanceSteps x = new ChanceSteps();
        final Model model = new Model();
        final StringBuilder calls = new StringBuilder();
        int left = 512;

        Run(long seed) {
            this.seed = seed;
            random = new Random(seed);
        }

        int up(int below) { return random.nextInt(below); }
        boolean once(int of) { return up(of) == 0; }

        void same(String call, long got, long want) {
            compared++;
            calls.append(call).append(" = ").append(want).append('\n');
            if (got != want) {
                wrong++;
                System.out.println("run " + seed + ":\n" + calls + "the last answered " + got);
                left = 0;
            }
        }

        void go() {
            while (left > 0) {
                int what = up(20);
                if (what < 2) tell();
                else if (what == 2) host();
                else ask();
            }
        }

        void tell() {
            String text = text();
            for (int i = 0; i < text.length() && left > 0; i += 5) {
                int[] b = new int[5];
                int n = Math.min(5, text.length() - i);
                for (int k = 0; k < n; k++) b[k] = text.charAt(i + k);
                left--;
                same("feed(" + n + ", " + Arrays.toString(b) + ")",
                    x.feed(n, b[0], b[1], b[2], b[3], b[4]), model.feed(n, b));
            }
            left--;
            long want = model.program();
            same("program() of " + text.replace('\n', ' '), x.program(), want);
            if (want == -4) seenTexts[2]++;
            else if (want <= -100) seenTexts[1]++;
            else if (want >= 0) {
                seenTexts[0]++;
                Model.Dist end = model.end((int) want);
                seenTexts[end == null ? 3 : end.weights.isEmpty() ? 4 : 5]++;
                if (text.contains("run")) seenTexts[6]++;
            }
            if (want >= 0 && once(2)) image();
            if (want == -4 && once(2)) back();
        }

        void image() { left--; same("image()", x.image(), model.image()); }
        void back() { left--; same("back()", x.back(), model.back()); }

        // ---- texts

        String text() {
            int kind = up(12);
            String text = "";
            if (kind == 10) {
                text = "draw a " + eight() + ";draw b " + eight() + ";draw c 0:1,1:1,2:1,3:1;"
                    + (once(2) ? "draw d 0:1,1:1" : "let " + name() + " " + sum(1));
            } else if (kind == 11) {
                text = "loop " + up(10) + "{draw " + name() + " 0:" + (1 + up(2)) + ",1:" + (1 + up(2)) + ",2:" + (1 + up(2))
                    + ";let " + name() + " " + sum(1) + "};" + steps(2, 2);
            } else {
                for (int k = 0; k < 20 && (text.isEmpty() || text.length() > 118); k++) text = steps(1 + up(6), 0);
            }
            if (once(6)) text = spoilt(text);
            return text.length() > 120 ? text.substring(0, 120) : text;
        }

        String eight() {
            StringBuilder s = new StringBuilder();
            for (int v = 0; v < 8; v++) s.append(v == 0 ? "" : ",").append(v + up(3)).append(":1");
            return s.toString();
        }

        String spoilt(String text) {
            StringBuilder s = new StringBuilder(text);
            for (int n = 1 + up(2); n > 0; n--) {
                String with = "abcdefgw0123456789;{}()+-*%<=,: \n#A\u00ff\t";
                char c = with.charAt(up(with.length()));
                int at = up(s.length() + 1);
                switch (up(4)) {
                    case 0: s.insert(at, c); break;
                    case 1: if (at < s.length()) s.setCharAt(at, c); break;
                    case 2: if (at < s.length()) s.deleteCharAt(at); break;
                    default: s.setLength(at);
                }
            }
            return s.toString();
        }

        String steps(int n, int deep) {
            StringBuilder s = new StringBuilder();
            for (int i = 0; i < n; i++) s.append(i == 0 ? "" : blank(";")).append(oneStep(deep));
            return s.toString();
        }

        String blank(String s) { return once(12) ? " " + s + (once(2) ? " " : "\n") : s; }

        String name() { return String.valueOf((char) ('a' + (once(2) ? up(2) : up(once(20) ? 7 : 6)))); }

        String oneStep(int deep) {
            switch (up(deep > 3 ? 5 : 10)) {
                case 0: case 1: return "draw " + name() + " " + lots();
                case 2: return "see " + formula(0);
                case 3: case 4: return once(2) && model.programs.size() > 0 ? runStep() : "let " + name() + " " + formula(0);
                case 5: return "if " + formula(0) + "{" + steps(1 + up(2), deep + 1) + blank("}{") + steps(1 + up(2), deep + 1) + "}";
                case 6: return "loop " + (once(20) ? up(12) : up(4)) + "{" + steps(1 + up(2), deep + 1) + "}";
                case 7: return runStep();
                case 8: return "draw " + name() + " " + lots();
                default: return "let " + name() + " " + name();
            }
        }

        String runStep() {
            int there = model.programs.size();
            return "run " + name() + " " + (there == 0 || once(20) ? up(7) : up(there)) + blank(" ") + formula(1);
        }

        String lots() {
            if (once(12)) return eight();
            int bits = 1 + up(once(3) ? 4 : 2);
            int rest = 1 << bits;
            StringBuilder s = new StringBuilder();
            int lots = 0;
            while (rest > 0 && lots < 8) {
                int w = once(3) ? rest : 1 + up(rest);
                s.append(lots == 0 ? "" : blank(",")).append(up(once(3) ? 10 : 3)).append(blank(":")).append(w);
                rest -= w;
                lots++;
            }
            return s.toString();
        }

        String formula(int deep) {
            if (once(3)) return sum(deep) + (once(2) ? "<" : "=") + sum(deep);
            return sum(deep);
        }

        String sum(int deep) {
            String s = term(deep);
            while (once(3)) s += (once(2) ? "+" : "-") + term(deep);
            return s;
        }

        String term(int deep) {
            String s = one(deep);
            while (once(4)) s += (once(2) ? "*" : "%") + one(deep);
            return s;
        }

        String one(int deep) {
            int what = up(10);
            if (what < 5) return name();
            if (what < 8 || deep > 3) return String.valueOf(once(6) ? up(120) : up(10));
            return what == 8 ? "-" + one(deep + 1) : "(" + formula(deep + 1) + ")";
        }

        // ---- questions

        int program() {
            int there = model.programs.size();
            return there == 0 || once(25) ? up(9) - 2 : up(there);
        }
        int number(int below) { return once(30) ? (once(2) ? -1 - up(3) : below + up(3)) : up(below); }
        int seed() { return once(3) ? random.nextInt() : up(100) - (once(9) ? Integer.MAX_VALUE : 0); }

        void host() {
            left--;
            int s = number(4), t = number(4), i = number(once(3) ? 10 : 4), j = number(once(3) ? 10 : 4);
            switch (up(6)) {
                case 0: {
                    int sort = number(3) - 1, n = once(3) ? up(60) - 10 : up(14);
                    same("sheet(" + s + "," + sort + "," + n + ")", x.sheet(s, sort, n), model.sheet(s, sort, n));
                    return;
                }
                case 1: case 2: case 3: {
                    int v = once(4) ? random.nextInt() : new int[] {0, 25, 50, 100, 12}[up(5)];
                    same("cell(" + s + "," + i + "," + v + ")", x.cell(s, i, v), model.cell(s, i, v));
                    return;
                }
                case 4: {
                    int n = once(9) ? random.nextInt() : number(8) - (once(9) ? 2 : 0);
                    int from = once(30) ? Integer.MAX_VALUE : i;
                    same("copy(" + s + "," + from + "," + t + "," + j + "," + n + ")",
                        x.copy(s, from, t, j, n), model.copy(s, from, t, j, n));
                    return;
                }
                default: {
                    int n = number(7), b = once(9) ? up(300) : up(256), e = once(9) ? -up(300) : 0;
                    if (model.tape.length() > 0 || once(4)) {
                        same("feed(" + n + "," + b + ", 0, 0, 0, " + e + ")",
                            x.feed(n, b, 0, 0, 0, e), model.feed(n, new int[] {b, 0, 0, 0, e}));
                        return;
                    }
                    same("count(" + n + ")", x.count(n), model.count(n));
                }
            }
        }

        void ask() {
            left--;
            int p = program(), q = program(), name = number(6), other = number(6), part = number(2), v = number(once(2) ? 10 : 3);
            String c = p + ", " + name + ", ";
            switch (up(23)) {
                case 0: { int w = number(7); same("told(" + p + ", " + w, x.told(p, w), model.told(p, w)); return; }
                case 1: { int i = number(5), w = number(6);
                    same("step(" + p + ", " + i + ", " + w, x.step(p, i, w), model.step(p, i, w)); return; }
                case 2: { int i = number(5), w = number(3);
                    same("taken(" + p + ", " + i + ", " + w, x.taken(p, i, w), model.taken(p, i, w)); return; }
                case 3: same("left(" + p + ", " + part, x.left(p, part), model.left(p, part)); return;
                case 4: case 5: same("odds(" + c + v + ", " + part, x.odds(p, name, v, part), model.odds(p, name, v, part)); return;
                case 6: {
                    int s = number(1000000);
                    Model.Dist end = p >= 0 && p < model.programs.size() ? model.end(p) : null;
                    if (end != null && !end.weights.isEmpty() && !once(4)) {
                        s = new ArrayList<>(end.weights.keySet()).get(up(end.weights.size()));
                    }
                    same("state(" + p + ", " + s + ", " + part, x.state(p, s, part), model.state(p, s, part));
                    return;
                }
                case 7: { int k = number(6); same("fold(" + c + k + ", " + part, x.fold(p, name, k, part), model.fold(p, name, k, part)); return; }
                case 8: { int n = number(7); same("likeliest(" + p + ", " + n, x.likeliest(p, n), model.likeliest(p, n)); return; }
                case 9: same("apart(" + c + other, x.apart(p, name, other), model.apart(p, name, other)); return;
                case 10: { int n = number(64); same("needed(" + p + ", " + n, x.needed(p, n), model.needed(p, n)); return; }
                case 11: case 12: { int n = once(5) ? -1 : number(64); same("peak(" + p + ", " + n, x.peak(p, n), model.peak(p, n)); return; }
                case 13: same("alike(" + p + ", " + q, x.alike(p, q), model.alike(p, q)); return;
                case 14: { int s = seed(); same("comes(" + p + ", " + s, x.comes(p, s), model.comes(p, s)); return; }
                case 15: {
                    int s = seed(), m = number(21);
                    same("often(" + p + ", " + s + ", " + m + ", " + name + ", " + v + ", " + part,
                        x.often(p, s, m, name, v, part), model.often(p, s, m, name, v, part));
                    return;
                }
                case 16: case 17: { int s = number(4), w = number(4);
                    same("tells(" + s + ", " + c + w, x.tells(s, p, name, w), model.tells(s, p, name, w)); return; }
                case 18: { int s = number(4); same("film(" + s + ", " + c, x.film(s, p, name), model.film(s, p, name)); return; }
                case 19: if (once(3)) { image(); return; }
                case 20: if (once(5)) { back(); return; }
                case 21: same("let(" + name + ", " + v, x.let(name, v), model.let(name, v)); return;
                default: { int w = number(3); same("count(" + w, x.count(w), model.count(w)); }
            }
        }
    }

    // ------------------------------------------------------------------ the model

    static final class Model {
        static final long NO = -4611686018427387904L;
        static final BigInteger WHOLE = BigInteger.ONE.shiftLeft(50);
        String tape = "";
        List<Prog> programs = new ArrayList<>();
        int[] start = new int[6];
        List<Prog> keptPrograms;
        int[] keptStart;
        int[][] sheets = new int[4][];
        int[] sorts = new int[4];

        static final class Wide extends RuntimeException { Wide() { super(null, null, false, false); } }
        static final class Fault extends RuntimeException { final int at; Fault(int at) { super(null, null, false, false); this.at = at; } }

        static final class Node {
            int kind, name = -1, number = -1, seen, total;
            List<int[]> lots = new ArrayList<>();
            IntUnaryOperator formula;
            List<Node> first, second;
            Prog ran;

            int bits() {
                switch (kind) {
                    case 0: return Integer.numberOfTrailingZeros(total);
                    case 3: return Math.max(sum(first, 0), sum(second, 0));
                    case 4: return number * sum(first, 0);
                    case 5: return sum(ran.block, 0);
                    default: return 0;
                }
            }
            int turns() {
                switch (kind) {
                    case 3: return 1 + sum(first, 1) + sum(second, 1);
                    case 4: return 1 + number * sum(first, 1);
                    case 5: return 1 + sum(ran.block, 1);
                    default: return 1;
                }
            }
            boolean sees() {
                return kind == 2 || kind == 5 && ran.all.stream().anyMatch(Node::sees);
            }
            int inside() {
                int n = 1;
                if (first != null) for (Node s : first) n += s.inside();
                if (second != null) for (Node s : second) n += s.inside();
                return n;
            }
        }

        static int sum(List<Node> block, int what) {
            int n = 0;
            for (Node s : block) n += what == 0 ? s.bits() : s.turns();
            return n;
        }

        static final class Prog {
            List<Node> block;
            List<Node> all = new ArrayList<>();
        }

        // ---- reading: the FAULT is thrown

        final class Text {
            final String text;
            final Prog prog = new Prog();
            final List<int[]> tokens = new ArrayList<>();   // place, size
            int t = 0, open = 0;

            Text(String text) { this.text = text; }

            void cut() {
                int i = 0;
                while (i < text.length()) {
                    char c = text.charAt(i);
                    if (c == ' ' || c == '\n') { i++; continue; }
                    int j = i + 1;
                    if (word(c)) while (j < text.length() && word(text.charAt(j))) j++;
                    else if (digit(c)) while (j < text.length() && digit(text.charAt(j))) j++;
                    tokens.add(new int[] {i, j - i});
                    i = j;
                }
            }
            boolean word(char c) { return "abcdefghijklmnopqrstuvwxyz".indexOf(c) >= 0; }
            boolean digit(char c) { return "0123456789".indexOf(c) >= 0; }

            String token() { return t < tokens.size() ? text.substring(tokens.get(t)[0], tokens.get(t)[0] + tokens.get(t)[1]) : ""; }
            Fault fault() { return new Fault(t < tokens.size() ? tokens.get(t)[0] : text.length()); }
            void need(String what) { if (!token().equals(what)) throw fault(); t++; }
            int name() { if (!token().matches("[a-f]")) throw fault(); t++; return tokenBefore().charAt(0) - 'a'; }
            String tokenBefore() { t--; String s = token(); t++; return s; }
            int number(int least, int most) {
                if (!token().matches("[0-9]{1,2}")) throw fault();
                int n = Integer.parseInt(token());
                if (n < least || n > most) throw fault();
                t++;
                return n;
            }

            Prog read() {
                cut();
                prog.block = block();
                if (t < tokens.size()) throw fault();
                return prog;
            }

            List<Node> block() {
                List<Node> steps = new ArrayList<>();
                steps.add(step());
                while (token().equals(";")) { t++; steps.add(step()); }
                return steps;
            }

            List<Node> braces() {
                if (open == 4) throw fault();
                need("{");
                open++;
                List<Node> steps = block();
                need("}");
                open--;
                return steps;
            }

            Node step() {
                int kind = Arrays.asList("draw", "let", "see", "if", "loop", "run").indexOf(token());
                if (kind < 0 || prog.all.size() == 16) throw fault();
                Node s = new Node();
                prog.all.add(s);
                s.kind = kind;
                t++;
                if (kind == 0 || kind == 1 || kind == 5) s.name = name();
                if (kind == 0) lots(s);
                if (kind == 4) s.number = number(0, 9);
                if (kind == 5) { s.number = number(0, programs.size() - 1); s.ran = programs.get(s.number); }
                if (kind == 1 || kind == 2 || kind == 3 || kind == 5) s.formula = formula(s);
                if (kind == 3 || kind == 4) s.first = braces();
                if (kind == 3) s.second = braces();
                return s;
            }

            void lots(Node s) {
                do {
                    if (s.lots.size() > 0) t++;
                    int v = number(0, 9);
                    need(":");
                    s.lots.add(new int[] {v, number(1, 16)});
                } while (token().equals(",") && s.lots.size() < 8);
                for (int[] lot : s.lots) s.total += lot[1];
                s.number = s.lots.size();
                if (token().equals(",") || !Arrays.asList(2, 4, 8, 16).contains(s.total)) throw fault();
            }

            IntUnaryOperator formula(Node s) {
                IntUnaryOperator x = sum(s);
                if (token().equals("<")) { t++; IntUnaryOperator y = sum(s); return st -> x.applyAsInt(st) < y.applyAsInt(st) ? 1 : 0; }
                if (token().equals("=")) { t++; IntUnaryOperator y = sum(s); return st -> x.applyAsInt(st) == y.applyAsInt(st) ? 1 : 0; }
                return x;
            }

            IntUnaryOperator sum(Node s) {
                IntUnaryOperator x = term(s);
                while (token().equals("+") || token().equals("-")) {
                    boolean plus = token().equals("+");
                    t++;
                    IntUnaryOperator l = x, r = term(s);
                    x = plus ? st -> l.applyAsInt(st) + r.applyAsInt(st) : st -> l.applyAsInt(st) - r.applyAsInt(st);
                }
                return x;
            }

            IntUnaryOperator term(Node s) {
                IntUnaryOperator x = one(s);
                while (token().equals("*") || token().equals("%")) {
                    boolean times = token().equals("*");
                    t++;
                    IntUnaryOperator l = x, r = one(s);
                    x = times ? st -> l.applyAsInt(st) * r.applyAsInt(st)
                        : st -> r.applyAsInt(st) == 0 ? 0 : (int) ((long) l.applyAsInt(st) % (long) r.applyAsInt(st));
                }
                return x;
            }

            IntUnaryOperator one(Node s) {
                if (token().matches("[0-9]{1,2}")) { int n = number(0, 99); return st -> n; }
                if (token().matches("[a-f]")) { int n = name(); s.seen |= 1 << n; return st -> value(st, n); }
                if (open == 4) throw fault();
                if (token().equals("-")) {
                    t++;
                    open++;
                    IntUnaryOperator x = one(s);
                    open--;
                    return st -> 0 - x.applyAsInt(st);
                }
                need("(");
                open++;
                IntUnaryOperator x = formula(s);
                need(")");
                open--;
                return x;
            }
        }

        static final int[] PLACES = {100000, 10000, 1000, 100, 10, 1};
        static int value(int state, int name) { return state / PLACES[name] % 10; }
        static int with(int state, int name, int v) { return state + (v - value(state, name)) * PLACES[name]; }
        static int digit(int v) { int d = v % 10; return d < 0 ? d + 10 : d; }

        // ---- ODDS

        static final class Dist {
            final Map<Integer, BigInteger> weights = new TreeMap<>();
            void add(int state, BigInteger w) { weights.merge(state, w, BigInteger::add); }
            BigInteger all() { return weights.values().stream().reduce(BigInteger.ZERO, BigInteger::add); }
            BigInteger of(int name, int v) { return where(name, v, name, v); }
            BigInteger where(int name, int v, int other, int w) {
                BigInteger sum = BigInteger.ZERO;
                for (Map.Entry<Integer, BigInteger> e : weights.entrySet()) {
                    if (value(e.getKey(), name) == v && value(e.getKey(), other) == w) sum = sum.add(e.getValue());
                }
                return sum;
            }
        }

        /** One walk: counts behind each STEP; FORGOTTEN, if asked is a set of NAMES. */
        final class Walk {
            final int asked;
            int most = 0;

            Walk(int asked) { this.asked = asked; }

            Dist noted(Dist d, int needed) {
                Dist out = new Dist();
                d.weights.forEach((s, w) -> {
                    int kept = s;
                    for (int n = 0; n < 6; n++) if (asked >= 0 && (needed >> n & 1) == 0) kept = with(kept, n, 0);
                    out.add(kept, w);
                });
                if (out.weights.size() > 300) throw new Wide();
                most = Math.max(most, out.weights.size());
                return out;
            }

            Dist whole(Prog p, int from) {
                Dist d = new Dist();
                d.add(from, WHOLE);
                d = noted(d, ahead(p.block, asked));
                return block(p.block, d, set -> set);
            }

            /** What comes behind the BLOCK tells what is NEEDED there. */
            Dist block(List<Node> block, Dist d, IntUnaryOperator then) {
                for (int i = 0; i < block.size(); i++) {
                    List<Node> rest = block.subList(i + 1, block.size());
                    IntUnaryOperator thenHere = set -> ahead(rest, then.applyAsInt(set));
                    d = noted(step(block.get(i), d, thenHere), thenHere.applyAsInt(asked));
                }
                return d;
            }

            Dist step(Node s, Dist d, IntUnaryOperator then) {
                Dist out = new Dist();
                switch (s.kind) {
                    case 0:
                        d.weights.forEach((st, w) -> s.lots.forEach(lot -> {
                            BigInteger[] parts = w.multiply(BigInteger.valueOf(lot[1])).divideAndRemainder(BigInteger.valueOf(s.total));
                            if (parts[1].signum() != 0) throw new IllegalStateException("no whole number");
                            out.add(with(st, s.name, lot[0]), parts[0]);
                        }));
                        return out;
                    case 1:
                        d.weights.forEach((st, w) -> out.add(with(st, s.name, digit(s.formula.applyAsInt(st))), w));
                        return out;
                    case 2:
                        d.weights.forEach((st, w) -> { if (s.formula.applyAsInt(st) != 0) out.add(st, w); });
                        return out;
                    case 3: {
                        Dist one = new Dist(), two = new Dist();
                        d.weights.forEach((st, w) -> (s.formula.applyAsInt(st) != 0 ? one : two).add(st, w));
                        block(s.first, one, then).weights.forEach(out::add);
                        block(s.second, two, then).weights.forEach(out::add);
                        return out;
                    }
                    case 4: {
                        Dist now = d;
                        for (int n = 0; n < s.number; n++) {
                            int more = s.number - n - 1;
                            now = block(s.first, now, set -> {
                                int needed = then.applyAsInt(set);
                                for (int k = 0; k < more; k++) needed = ahead(s.first, needed);
                                return needed;
                            });
                        }
                        return now;
                    }
                    default:
                        if (asked >= 0 && (then.applyAsInt(asked) >> s.name & 1) == 0 && !s.sees()) return d;
                        d.weights.forEach((st, w) -> {
                            Dist end = new Walk(-1).whole(s.ran, with(0, 0, digit(s.formula.applyAsInt(st))));
                            for (int v = 0; v < 10; v++) {
                                BigInteger[] parts = w.multiply(end.of(0, v)).divideAndRemainder(WHOLE);
                                if (parts[1].signum() != 0) throw new IllegalStateException("no whole number");
                                if (parts[0].signum() != 0) out.add(with(st, s.name, v), parts[0]);
                            }
                        });
                        return out;
                }
            }
        }

        static int ahead(List<Node> block, int behind) {
            int set = behind;
            for (int i = block.size() - 1; i >= 0; i--) {
                Node s = block.get(i);
                boolean named = s.name >= 0 && (set >> s.name & 1) == 1;
                int less = s.name < 0 ? set : set & (63 - (1 << s.name));
                switch (s.kind) {
                    case 0: set = less; break;
                    case 1: if (named) set = less | s.seen; break;
                    case 2: set |= s.seen; break;
                    case 3: set = ahead(s.first, set) | ahead(s.second, set) | s.seen; break;
                    case 4: for (int n = 0; n < s.number; n++) set = ahead(s.first, set); break;
                    default: if (named || s.sees()) set = less | s.seen;
                }
            }
            return set;
        }

        int startState() { int s = 0; for (int v : start) s = s * 10 + v; return s; }

        final Map<String, Object> kept = new TreeMap<>();

        Dist end(int p) { return end(programs.get(p), startState()); }

        Dist end(Prog p, int from) {
            String key = System.identityHashCode(p) + " " + programs.indexOf(p) + " " + from;
            if (!kept.containsKey(key)) {
                try { kept.put(key, new Walk(-1).whole(p, from)); } catch (Wide e) { kept.put(key, "wide"); }
            }
            Object end = kept.get(key);
            return end instanceof Dist ? (Dist) end : null;
        }

        // ---- the face

        boolean none(int p) { return p < 0 || p >= programs.size(); }
        static boolean in(int n, int least, int most) { return n >= least && n <= most; }

        int feed(int n, int[] b) {
            if (!in(n, 1, 5)) return -2;
            for (int k : b) if (!in(k, 0, 255)) return -2;
            if (tape.length() + n > 120) return -4;
            for (int i = 0; i < n; i++) tape += (char) b[i];
            return tape.length();
        }

        int program() {
            if (programs.size() == 6) return -4;
            String text = tape;
            tape = "";
            Prog p;
            try { p = new Text(text).read(); } catch (Fault f) { return -100 - f.at; }
            if (sum(p.block, 0) > 50 || sum(p.block, 1) > 60) return -4;
            programs.add(p);
            return programs.size() - 1;
        }

        int let(int name, int v) {
            if (!in(name, 0, 5) || !in(v, 0, 9)) return -2;
            int was = start[name];
            start[name] = v;
            return was;
        }

        int told(int p, int what) {
            if (none(p) || !in(what, 0, 6)) return -2;
            Prog prog = programs.get(p);
            int names = 0;
            boolean sees = false;
            for (Node s : prog.all) { names |= s.seen | (s.name >= 0 ? 1 << s.name : 0); sees |= s.sees(); }
            switch (what) {
                case 0: return prog.all.size();
                case 1: return sum(prog.block, 0);
                case 2: return sees ? 1 : 0;
                case 3: return names;
                case 4: return end(p) == null ? 1 : 0;
                case 5: return end(p) == null ? -6 : end(p).weights.size();
                default: return sum(prog.block, 1);
            }
        }

        int step(int p, int i, int what) {
            if (none(p) || !in(what, 0, 5)) return -2;
            if (i < 0 || i >= programs.get(p).all.size()) return -12;
            Node s = programs.get(p).all.get(i);
            return new int[] {s.kind, s.name, s.inside(), s.bits(), s.seen, s.number}[what];
        }

        int taken(int p, int i, int group) {
            if (none(p) || !in(group, 0, 2)) return -2;
            if (i < 0 || i >= programs.get(p).all.size()) return -12;
            int kind = programs.get(p).all.get(i).kind;
            return new String[] {"015", "34", "1235"}[group].contains("" + kind) ? kind : -13;
        }

        static long ratio(BigInteger above, BigInteger below, int part) {
            BigInteger g = above.gcd(below);
            return (part == 0 ? above : below).divide(g).longValueExact();
        }

        long left(int p, int part) {
            if (none(p) || !in(part, 0, 1) || end(p) == null) return NO;
            return ratio(end(p).all(), WHOLE, part);
        }

        boolean silent(int p) { return end(p) == null || end(p).weights.isEmpty(); }

        long odds(int p, int name, int v, int part) {
            if (none(p) || !in(name, 0, 5) || !in(v, 0, 9) || !in(part, 0, 1) || silent(p)) return NO;
            return ratio(end(p).of(name, v), end(p).all(), part);
        }

        long state(int p, int state, int part) {
            if (none(p) || !in(state, 0, 999999) || !in(part, 0, 1) || silent(p)) return NO;
            return ratio(end(p).weights.getOrDefault(state, BigInteger.ZERO), end(p).all(), part);
        }

        long fold(int p, int name, int kind, int part) {
            if (none(p) || !in(name, 0, 5) || !in(kind, 0, 5) || !in(part, 0, 1) || silent(p)) return NO;
            BigInteger sum = BigInteger.ZERO;
            for (int v = 0; v < 10; v++) {
                int g = new int[] {v, v * v, v % 2 == 0 ? 1 : 0, v * v * v, v % 2 == 0 ? 0 : 1, 9 - v}[kind];
                sum = sum.add(end(p).of(name, v).multiply(BigInteger.valueOf(g)));
            }
            return ratio(sum, end(p).all(), part);
        }

        int refused(int p) { return end(p) == null ? -6 : end(p).weights.isEmpty() ? -7 : 0; }

        int likeliest(int p, int name) {
            if (none(p) || !in(name, 0, 6)) return -2;
            if (refused(p) != 0) return refused(p);
            int best = -1;
            BigInteger most = BigInteger.ZERO;
            if (name == 6) {
                for (Map.Entry<Integer, BigInteger> e : end(p).weights.entrySet()) {
                    if (e.getValue().compareTo(most) > 0) { best = e.getKey(); most = e.getValue(); }
                }
            }
            for (int v = 0; v < 10 && name < 6; v++) {
                if (end(p).of(name, v).compareTo(most) > 0) { best = v; most = end(p).of(name, v); }
            }
            return best;
        }

        int apart(int p, int name, int other) {
            if (none(p) || !in(name, 0, 5) || !in(other, 0, 5)) return -2;
            if (refused(p) != 0) return refused(p);
            Dist d = end(p);
            for (int v = 0; v < 10; v++) for (int w = 0; w < 10; w++) {
                if (!d.where(name, v, other, w).multiply(d.all()).equals(d.of(name, v).multiply(d.of(other, w)))) return 0;
            }
            return 1;
        }

        int needed(int p, int names) {
            if (none(p) || !in(names, 0, 63)) return -2;
            return ahead(programs.get(p).block, names);
        }

        int peak(int p, int names) {
            if (none(p) || !in(names, -1, 63)) return -2;
            Walk walk = new Walk(names);
            try { walk.whole(programs.get(p), startState()); } catch (Wide e) { return -6; }
            return walk.most;
        }

        int alike(int p, int q) {
            if (none(p) || none(q)) return -2;
            if (end(p) == null || end(q) == null) return -6;
            if (silent(p) || silent(q)) return -7;
            for (int n = 0; n < 6; n++) for (int v = 0; v < 10; v++) {
                if (!end(p).of(n, v).multiply(end(q).all()).equals(end(q).of(n, v).multiply(end(p).all()))) return 0;
            }
            return 1;
        }

        // ---- by seeds

        static final class Seeded {
            int z;
            Integer block(List<Node> block, int state) {
                Integer now = state;
                for (Node s : block) {
                    if (now == null) return null;
                    now = step(s, now);
                }
                return now;
            }
            Integer step(Node s, int state) {
                switch (s.kind) {
                    case 0: {
                        z = z * 1103515245 + 12345;
                        int r = (z >>> 9) % s.total;
                        List<Integer> falls = new ArrayList<>();
                        for (int[] lot : s.lots) for (int k = 0; k < lot[1]; k++) falls.add(lot[0]);
                        return with(state, s.name, falls.get(r));
                    }
                    case 1: return with(state, s.name, digit(s.formula.applyAsInt(state)));
                    case 2: return s.formula.applyAsInt(state) != 0 ? (Integer) state : null;
                    case 3: return block(s.formula.applyAsInt(state) != 0 ? s.first : s.second, state);
                    case 4: {
                        Integer now = state;
                        for (int n = 0; n < s.number && now != null; n++) now = block(s.first, now);
                        return now;
                    }
                    default: {
                        Integer end = block(s.ran.block, digit(s.formula.applyAsInt(state)) * 100000);
                        return end == null ? null : (Integer) with(state, s.name, end / 100000);
                    }
                }
            }
        }

        Integer coming(int p, int seed) {
            Seeded seeded = new Seeded();
            seeded.z = seed;
            return seeded.block(programs.get(p).block, startState());
        }

        int comes(int p, int seed) {
            if (none(p)) return -2;
            Integer end = coming(p, seed);
            return end == null ? -1 : end;
        }

        int often(int p, int seed, int m, int name, int v, int part) {
            if (none(p) || !in(m, 1, 20) || !in(name, 0, 5) || !in(v, 0, 9) || !in(part, 0, 1)) return -2;
            int all = 0, such = 0;
            for (int k = 0; k < m; k++) {
                Integer end = coming(p, seed + k);
                if (end != null) { all++; if (value(end, name) == v) such++; }
            }
            return all == 0 ? -1 : (int) ratio(BigInteger.valueOf(such), BigInteger.valueOf(all), part);
        }

        // ---- what was told

        static int hundredths(Dist d, int name, int v) {
            return d.of(name, v).multiply(BigInteger.valueOf(100)).divide(d.all()).intValueExact();
        }

        int otherwise(int sheet, Dist d, int name) {
            for (int v = 0; v < sheets[sheet].length; v++) if (sheets[sheet][v] != hundredths(d, name, v)) return v;
            return -1;
        }

        boolean so(int sheet, Dist d, int name) { return d != null && !d.weights.isEmpty() && otherwise(sheet, d, name) == -1; }

        int tells(int sheet, int p, int name, int what) {
            if (!in(sheet, 0, 3) || none(p) || !in(name, 0, 5) || !in(what, 0, 3)) return -2;
            if (refused(p) != 0) return refused(p);
            if (sheets[sheet] == null) return -11;
            if (sheets[sheet].length > 10) return -2;
            int bits = 0;
            switch (what) {
                case 0: return otherwise(sheet, end(p), name);
                case 1: for (int q = 0; q < programs.size(); q++) if (so(sheet, end(q), name)) bits |= 1 << q; return bits;
                case 2: for (int n = 0; n < 6; n++) if (so(sheet, end(p), n)) bits |= 1 << n; return bits;
                default: for (int v = 0; v < 10; v++) if (so(sheet, end(programs.get(p), with(startState(), 0, v)), name)) bits |= 1 << v; return bits;
            }
        }

        int film(int sheet, int p, int name) {
            if (!in(sheet, 0, 3) || none(p) || !in(name, 0, 5)) return -2;
            if (refused(p) != 0) return refused(p);
            sheets[sheet] = new int[10];
            sorts[sheet] = 0;
            for (int v = 0; v < 10; v++) sheets[sheet][v] = hundredths(end(p), name, v);
            return 10;
        }

        int image() { keptPrograms = new ArrayList<>(programs); keptStart = start.clone(); return programs.size(); }

        int back() {
            if (keptPrograms == null) return -3;
            programs = new ArrayList<>(keptPrograms);
            start = keptStart.clone();
            kept.clear();
            return programs.size();
        }

        int count(int what) { return what == 0 ? programs.size() : what == 1 ? tape.length() : what == 2 ? startState() : -2; }

        int sheet(int s, int sort, int n) {
            if (!in(s, 0, 3) || !in(sort, -1, 1)) return -2;
            if (sort == -1) { sheets[s] = null; return 1; }
            if (n > 40) return -2;
            if (n < 0) return -14;
            sheets[s] = new int[n];
            sorts[s] = sort;
            return 1;
        }

        int cell(int s, int i, int v) {
            if (!in(s, 0, 3)) return -2;
            if (sheets[s] == null) return -11;
            if (!in(i, 0, sheets[s].length - 1)) return -12;
            sheets[s][i] = sorts[s] == 0 ? v & 255 : v;
            return 1;
        }

        int copy(int s, int i, int t, int j, int n) {
            if (!in(s, 0, 3) || !in(t, 0, 3)) return -2;
            if (sheets[s] == null || sheets[t] == null) return -11;
            if (sorts[s] != sorts[t]) return -13;
            if (i < 0 || j < 0 || n < 0 || (long) i + n > sheets[s].length || (long) j + n > sheets[t].length) return -12;
            int[] was = sheets[s].clone();
            for (int k = 0; k < n; k++) sheets[t][j + k] = was[i + k];
            return n;
        }
    }
}
