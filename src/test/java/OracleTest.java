import java.math.BigInteger;
import java.util.ArrayList;
import java.util.Arrays;
import java.util.Comparator;
import java.util.List;
import java.util.Random;
import java.util.TreeMap;

/**
 * Random runs of calls on AlikeUnlike and on a second, slow and plain reading of the
 * document (Oracle, below); each answer has to be the same. The seeds are fixed.
 */
public final class OracleTest {
    private static int wrong = 0;
    private static final TreeMap<String, Integer> told = new TreeMap<>();

    public static void main(String[] args) {
        int runs = args.length > 0 ? Integer.parseInt(args[0]) : 400;
        long from = args.length > 1 ? Long.parseLong(args[1]) : 1;
        for (long seed = from; seed < from + runs && wrong < 10; seed++) {
            new Run(seed).go();
        }
        if (args.length > 0) {
            System.out.println(told);
        }
        System.out.println(wrong == 0 ? "the oracle agrees in " + runs + " runs" : wrong + " answers differ");
        if (wrong != 0) {
            System.exit(1);
        }
    }

    /** One random run. */
    private static final class Run {
        final long seed;
        final Random r;
        final AlikeUnlike x = new AlikeUnlike();
        final Oracle o = new Oracle();
        final List<String> calls = new ArrayList<>();
        final int span;

        Run(long seed) {
            this.seed = seed;
            this.r = new Random(seed);
            this.span = new int[] {2, 3, 5, 9, 20}[r.nextInt(5)];
        }

        void due(String call, long got, long want) {
            calls.add(call + " = " + got);
            String name = call.substring(0, call.indexOf('('));
            String sort = want == -101 ? "UNKNOWN" : want == -102 ? "OUTSIDE" : want == -103 ? "STATE" : want == -104 ? "FULL" : want == -1 ? "-1" : "ok";
            told.merge(name + " " + sort, 1, Integer::sum);
            if (got != want) {
                wrong++;
                System.out.println("seed " + seed + ": " + call + " answered " + got + ", due is " + want);
                if (wrong == 1) {
                    calls.forEach(System.out::println);
                }
            }
        }

        int near(int from, int to) {
            return r.nextInt(12) == 0 ? new int[] {from - 1, to + 1, Integer.MIN_VALUE, Integer.MAX_VALUE}[r.nextInt(4)]
                    : from + r.nextInt(to - from + 1);
        }

        void go() {
            boolean tame = r.nextInt(3) == 0;
            if (tame) {
                beginTame();
            } else if (r.nextInt(4) != 0) {
                begin();
            }
            int many = 30 + r.nextInt(120);
            for (int i = 0; i < many && wrong < 10; i++) {
                step(tame ? 9 + r.nextInt(18) : r.nextInt(27));
            }
            due("digest()", x.digest(), o.digest());
        }

        void begin() {
            for (int f = 0; f < 8; f++) {
                field(f, 2, Math.max(0, r.nextInt(3) == 0 ? r.nextInt(span + 1) : r.nextInt(3)));
                field(f, 0, r.nextInt(5));
                field(f, 3, 1 + r.nextInt(9));
                if (r.nextInt(4) == 0) {
                    field(f, 1, r.nextInt(3));
                }
            }
            put(new Maker(r).program());
            call("program", 0);
            for (int i = r.nextInt(14); i > 0; i--) {
                row(person(false), r.nextInt(3) - 1);
            }
            if (r.nextInt(2) == 0) {
                put(new Maker(r).condition(1));
                call("law", 0);
            }
        }

        /** Runs in which somebody can be let for a PRICE, and groups are large. */
        void beginTame() {
            int[] kinds = {r.nextBoolean() ? 0 : 4, 1, 3, r.nextBoolean() ? 3 : 0, 2, 3, 0, 1};
            for (int f = 0; f < 8; f++) {
                field(f, 0, kinds[f]);
                field(f, 2, f < 6 ? 1 + r.nextInt(6) : r.nextInt(2));
                field(f, 3, 1 + r.nextInt(4));
            }
            for (int i = 0; i < 20 && o.prog == null; i++) {
                put(new Maker(r).program());
                if (o.page.length() > 12) {
                    call("program", 0);
                }
            }
            for (int i = 6 + r.nextInt(14); i > 0; i--) {
                row(person(false), r.nextInt(3) - 1);
            }
            if (r.nextInt(3) == 0) {
                put("ac>".charAt(r.nextInt(2)) + "<" + "cb9".charAt(r.nextInt(3)) + "+" + r.nextInt(4));
                call("law", 0);
            }
        }

        void field(int f, int what, int v) {
            due("field(" + f + ", " + what + ", " + v + ")", x.field(f, what, v), o.field(f, what, v));
        }

        void row(long person, int out) {
            due("row(" + person + ", " + out + ")", x.row(person, out), o.row(person, out));
        }

        void put(String text) {
            due("blank()", x.blank(), o.blank());
            for (int i = 0; i < text.length(); i += 8) {
                long w = 0;
                for (int k = i; k < text.length() && k < i + 8; k++) {
                    w |= (long) text.charAt(k) << (8 * (k - i));
                }
                letters(w);
            }
            due("fault(0) of " + o.page, x.fault(0), o.fault(0));
            due("fault(1)", x.fault(1), o.fault(1));
        }

        void letters(long w) {
            due("letters(" + w + ")", x.letters(w), o.letters(w));
        }

        void call(String name, int a) {
            switch (name) {
                case "program": due("program()", x.program(), o.program()); break;
                default: due("law()", x.law(), o.law());
            }
        }

        long person(boolean bad) {
            if (bad && r.nextInt(10) == 0) {
                return new long[] {-1, Long.MIN_VALUE, Long.MAX_VALUE, 10000000000000000L, 9999999999999999L, 21, 98, 2100, 99L}[r.nextInt(9)];
            }
            long p = 0;
            int missing = r.nextInt(4) == 0 ? 6 : 200;
            for (int f = 7; f >= 0; f--) {
                int v = o.least[f] + r.nextInt(o.greatest[f] - o.least[f] + 1);
                v = r.nextInt(40) == 0 ? r.nextInt(21) : v;
                p = p * 100 + (r.nextInt(missing) == 0 ? 99 : v);
            }
            return p;
        }

        int value(int f) {
            return f >= 0 && f < 8 && r.nextInt(8) != 0 ? o.least[f] + r.nextInt(o.greatest[f] - o.least[f] + 1) : near(0, 20);
        }

        void step(int which) {
            int f = near(0, 7);
            int v = value(f);
            int w = value(f);
            switch (which) {
                case 0: {
                    int what = near(0, 3);
                    field(f, what, what == 0 ? near(0, 4) : what == 3 ? near(1, 99) : near(0, Math.min(20, span + 1)));
                    break;
                }
                case 1: {
                    int k = near(0, 4);
                    due("as(" + f + ", " + k + ")", x.as(f, k), o.as(f, k));
                    break;
                }
                case 2: {
                    int k = near(0, 1);
                    due("asks(" + f + ", " + k + ")", x.asks(f, k), o.asks(f, k));
                    break;
                }
                case 3: letters(randomLetters()); break;
                case 4: due("blank()", x.blank(), o.blank()); break;
                case 5: {
                    int k = near(0, 1);
                    due("fault(" + k + ") of " + o.page, x.fault(k), o.fault(k));
                    break;
                }
                case 6:
                    put(new Maker(r).maybeSpoilt(new Maker(r).program()));
                    call("program", 0);
                    break;
                case 7:
                    put(new Maker(r).maybeSpoilt(new Maker(r).condition(r.nextInt(3))));
                    call("law", 0);
                    break;
                case 8: if (r.nextInt(2) == 0) due("strike()", x.strike(), o.strike()); break;
                case 9: {
                    long p = person(true);
                    int k = near(0, 2);
                    due("run(" + p + ", " + k + ")", x.run(p, k), o.run(p, k));
                    break;
                }
                case 10: {
                    int g = r.nextInt(3) == 0 ? f : -1;
                    int n = r.nextInt(15) == 0 ? near(1, 2000) : 1 + r.nextInt(r.nextBoolean() ? 40 : 600);
                    due("seek(" + g + ", " + n + ")", x.seek(g, n), o.seek(g, n));
                    for (int k = 0; k < 3; k++) {
                        due("sought(" + k + ")", x.sought(k), o.sought(k));
                    }
                    break;
                }
                case 11: {
                    int k = near(0, 2);
                    due("sought(" + k + ")", x.sought(k), o.sought(k));
                    break;
                }
                case 12: {
                    int k = near(0, 1);
                    due("pair(" + k + ")", x.pair(k), o.pair(k));
                    break;
                }
                case 13: {
                    long a = person(true);
                    long b = person(true);
                    if (r.nextInt(5) != 0 && a >= 0 && b >= 0) {
                        long lo = 0;
                        long hi = 0;
                        for (long unit = 1, i = 0; i < 8; i++, unit *= 100) {
                            lo += Math.min(a / unit % 100, b / unit % 100) * unit;
                            hi += Math.max(a / unit % 100, b / unit % 100) * unit;
                        }
                        a = lo;
                        b = hi;
                    }
                    due("ends(" + a + ", " + b + ")", x.ends(a, b), o.ends(a, b));
                    break;
                }
                case 14: row(person(true), near(-1, 1)); break;
                case 15: {
                    int k = near(0, Math.max(0, o.rows.size() - 1));
                    due("end(" + k + ")", x.end(k), o.end(k));
                    break;
                }
                case 16: {
                    int k = near(0, 3);
                    due("group(" + f + ", " + v + ", " + k + ")", x.group(f, v, k), o.group(f, v, k));
                    break;
                }
                case 17: {
                    int k = near(0, 1);
                    due("gap(" + f + ", " + v + ", " + w + ", " + k + ")", x.gap(f, v, w, k), o.gap(f, v, w, k));
                    break;
                }
                case 18: {
                    int k = near(0, 1);
                    due("odds(" + f + ", " + v + ", " + w + ", " + k + ")", x.odds(f, v, w, k), o.odds(f, v, w, k));
                    break;
                }
                case 19: {
                    int k = near(0, 5);
                    due("where(" + k + ")", x.where(k), o.where(k));
                    break;
                }
                case 20: {
                    int s = near(0, 7);
                    int top = r.nextInt(5) == 0 ? 9 : 4;
                    int g = r.nextInt(40) == 0 ? near(0, 9) : r.nextInt(top + 1);
                    int b = r.nextInt(40) == 0 ? near(0, 9) : r.nextInt(top + 1);
                    int h = r.nextInt(40) == 0 ? near(0, 9) : r.nextInt(top + 1);
                    int c = r.nextInt(40) == 0 ? near(0, 9) : r.nextInt(top + 1);
                    int k = near(0, 2);
                    due("askings(" + s + ", " + g + ", " + b + ", " + h + ", " + c + ", " + k + ")",
                            x.askings(s, g, b, h, c, k), o.askings(s, g, b, h, c, k));
                    break;
                }
                case 21: {
                    int k = near(0, 2);
                    due("mend(" + f + ", " + v + ", " + w + ", " + k + ")", x.mend(f, v, w, k), o.mend(f, v, w, k));
                    break;
                }
                case 22:
                case 23: {
                    int i = near(0, Math.max(0, o.rows.size() - 1));
                    int k = r.nextInt(3) == 0 ? 0 : near(10, 17);
                    due("refused(" + i + ", " + k + ")", x.refused(i, k), o.refused(i, k));
                    break;
                }
                case 24:
                case 25: {
                    int i = near(0, Math.max(0, o.rows.size() - 1));
                    due("sameFor(" + i + ", " + f + ", " + v + ")", x.sameFor(i, f, v), o.sameFor(i, f, v));
                    break;
                }
                default: {
                    int k = near(0, 6);
                    due("count(" + k + ")", x.count(k), o.count(k));
                    due("digest()", x.digest(), o.digest());
                }
            }
        }

        long randomLetters() {
            if (r.nextInt(4) == 0) {
                return r.nextLong();
            }
            long w = 0;
            int n = r.nextInt(9);
            for (int i = 0; i < n; i++) {
                w |= (long) "abch0123456789+-*<=>!&|():;x~\u007f".charAt(r.nextInt(30)) << (8 * i);
            }
            return w;
        }
    }

    /** Makes random texts. */
    private static final class Maker {
        final Random r;

        Maker(Random r) {
            this.r = r;
        }

        String program() {
            StringBuilder b = new StringBuilder();
            int lines = r.nextInt(5);
            for (int i = 0; i < lines; i++) {
                String c = condition(2);
                if (b.length() + c.length() > 74) {
                    break;
                }
                b.append(c).append(':').append(r.nextInt(2)).append(';');
            }
            return b.append(':').append(r.nextInt(2)).toString();
        }

        String condition(int depth) {
            StringBuilder b = new StringBuilder(term(depth));
            while (r.nextInt(4) == 0) {
                b.append('|').append(term(depth));
            }
            return b.toString();
        }

        String term(int depth) {
            StringBuilder b = new StringBuilder(factor(depth));
            while (r.nextInt(4) == 0) {
                b.append('&').append(factor(depth));
            }
            return b.toString();
        }

        String factor(int depth) {
            if (r.nextInt(6) == 0) {
                return "!" + factor(depth);
            }
            if (depth > 0 && r.nextInt(5) == 0) {
                return "(" + condition(depth - 1) + ")";
            }
            return sum() + "<=>".charAt(r.nextInt(3)) + sum();
        }

        String sum() {
            StringBuilder b = new StringBuilder(product());
            while (r.nextInt(4) == 0) {
                b.append(r.nextBoolean() ? '+' : '-').append(product());
            }
            return b.toString();
        }

        String product() {
            String p = unit();
            for (int i = 0; i < 2 && r.nextInt(5) == 0; i++) {
                p += "*" + unit();
            }
            return p;
        }

        String unit() {
            return r.nextInt(3) != 0 ? "" + (char) ('a' + r.nextInt(r.nextBoolean() ? 3 : 8))
                    : r.nextInt(6) != 0 ? "" + r.nextInt(10) : "" + r.nextInt(10) + r.nextInt(10);
        }

        String maybeSpoilt(String text) {
            if (r.nextInt(3) != 0 || text.isEmpty()) {
                return text;
            }
            StringBuilder b = new StringBuilder(text);
            int at = r.nextInt(b.length());
            switch (r.nextInt(3)) {
                case 0: b.deleteCharAt(at); break;
                case 1: b.insert(at, "ab09+-*<=>!&|():;ix ".charAt(r.nextInt(20))); break;
                default: b.setCharAt(at, "ab09+-*<=>!&|():;ix ".charAt(r.nextInt(20)));
            }
            return b.toString();
        }
    }

    private static final class Bad extends RuntimeException {
        Bad() {
            super(null, null, false, false);
        }
    }

    private static final class Short extends RuntimeException {
        Short() {
            super(null, null, false, false);
        }
    }

    private static final class Gone extends RuntimeException {
        Gone() {
            super(null, null, false, false);
        }
    }

    /** A span of sums; of truths as 0 NEVER, 1 MAYBE, 2 SURE in low. */
    private record Span(long low, long high) {
    }

    /** A tree: op is a letter, 'n' a number, 'f' a FIELD, 'u' behind. */
    private static final class Tree {
        final char op;
        final int v;
        final Tree left;
        final Tree right;

        Tree(char op, int v, Tree left, Tree right) {
            this.op = op;
            this.v = v;
            this.left = left;
            this.right = right;
        }

        long value(int[] p) {
            switch (op) {
                case 'n': return v;
                case 'f': if (p[v] < 0) throw new Gone(); return p[v];
                case '*': return left.value(p) * right.value(p);
                case '+': return left.value(p) + right.value(p);
                default: return left.value(p) - right.value(p);
            }
        }

        boolean holds(int[] p) {
            switch (op) {
                case '!': return !left.holds(p);
                case '&': return left.holds(p) && right.holds(p);
                case '|': return left.holds(p) || right.holds(p);
                default: {
                    long a = left.value(p);
                    long b = right.value(p);
                    return op == '<' ? a < b : op == '>' ? a > b : a == b;
                }
            }
        }

        Span span(int[] lo, int[] hi) {
            if (op == 'n') {
                return new Span(v, v);
            }
            if (op == 'f') {
                return new Span(lo[v], hi[v]);
            }
            Span a = left.span(lo, hi);
            Span b = right.span(lo, hi);
            if (op == '+') {
                return new Span(a.low + b.low, a.high + b.high);
            }
            if (op == '-') {
                return new Span(a.low - b.high, a.high - b.low);
            }
            long[] four = {a.low * b.low, a.low * b.high, a.high * b.low, a.high * b.high};
            Arrays.sort(four);
            return new Span(four[0], four[3]);
        }

        /** 0 NEVER, 1 MAYBE, 2 SURE. */
        int truth(int[] lo, int[] hi) {
            switch (op) {
                case '!': return 2 - left.truth(lo, hi);
                case '&': return Math.min(left.truth(lo, hi), right.truth(lo, hi));
                case '|': return Math.max(left.truth(lo, hi), right.truth(lo, hi));
                default:
            }
            Span a = left.span(lo, hi);
            Span b = right.span(lo, hi);
            if (op == '<') {
                return a.high < b.low ? 2 : a.low >= b.high ? 0 : 1;
            }
            if (op == '>') {
                return a.low > b.high ? 2 : a.high <= b.low ? 0 : 1;
            }
            if (a.high < b.low || b.high < a.low) {
                return 0;
            }
            return a.low == a.high && b.low == b.high ? 2 : 1;
        }
    }

    /** Reads by the grammar's own rules, one method a rule. */
    private static final class Parser {
        final String t;
        int at = 0;
        final List<int[]> numbers = new ArrayList<>();

        Parser(String t) {
            this.t = t;
        }

        char peek() {
            if (at >= t.length()) {
                throw new Short();
            }
            return t.charAt(at);
        }

        boolean sees(String these) {
            return at < t.length() && these.indexOf(t.charAt(at)) >= 0;
        }

        void need(String these) {
            if (these.indexOf(peek()) < 0) {
                throw new Bad();
            }
            at++;
        }

        Tree condition() {
            Tree a = term();
            while (sees("|")) {
                at++;
                a = new Tree('|', 0, a, term());
            }
            return a;
        }

        Tree term() {
            Tree a = factor();
            while (sees("&")) {
                at++;
                a = new Tree('&', 0, a, factor());
            }
            return a;
        }

        Tree factor() {
            char c = peek();
            if (c == '!') {
                at++;
                return new Tree('!', 0, factor(), null);
            }
            if (c == '(') {
                at++;
                Tree a = condition();
                need(")");
                return a;
            }
            Tree left = sum();
            char op = peek();
            need("<=>");
            return new Tree(op, 0, left, sum());
        }

        Tree sum() {
            Tree a = product();
            while (sees("+-")) {
                char op = t.charAt(at++);
                a = new Tree(op, 0, a, product());
            }
            return a;
        }

        Tree product() {
            Tree a = unit();
            for (int i = 0; i < 2 && sees("*"); i++) {
                at++;
                a = new Tree('*', 0, a, unit());
            }
            return a;
        }

        Tree unit() {
            char c = peek();
            need("0123456789abcdefgh");
            if (c >= 'a') {
                return new Tree('f', c - 'a', null, null);
            }
            int from = at - 1;
            if (sees("0123456789")) {
                at++;
            }
            numbers.add(new int[] {from, at});
            return new Tree('n', Integer.parseInt(t.substring(from, at)), null, null);
        }
    }

    /** A program as trees. */
    private static final class Prog {
        final List<Tree> conditions = new ArrayList<>();
        final List<Integer> ends = new ArrayList<>();
        final String text;
        List<int[]> numbers;

        Prog(String text) {
            this.text = text;
            Parser p = new Parser(text);
            while (p.peek() != ':') {
                conditions.add(p.condition());
                p.need(":");
                ends.add(p.peek() - '0');
                p.need("01");
                p.need(";");
            }
            p.need(":");
            ends.add(p.peek() - '0');
            p.need("01");
            if (p.at != text.length()) {
                throw new Bad();
            }
            numbers = p.numbers;
        }

        int[] run(int[] person) {
            try {
                for (int i = 0; i < conditions.size(); i++) {
                    if (conditions.get(i).holds(person)) {
                        return new int[] {ends.get(i), i};
                    }
                }
            } catch (Gone e) {
                return new int[] {2, -1};
            }
            return new int[] {ends.get(conditions.size()), conditions.size()};
        }

        int ends(int[] lo, int[] hi) {
            int bits = 0;
            for (int i = 0; i < conditions.size(); i++) {
                int t = conditions.get(i).truth(lo, hi);
                if (t > 0) {
                    bits |= 1 << ends.get(i);
                }
                if (t == 2) {
                    return bits;
                }
            }
            return bits | 1 << ends.get(conditions.size());
        }
    }

    private record Row(long told, int[] p, int out) {
    }

    /** The document, read plainly. */
    private static final class Oracle {
        final int[] kind = new int[8];
        final int[] least = new int[8];
        final int[] greatest = {9, 9, 9, 9, 9, 9, 9, 9};
        final int[] price = {1, 1, 1, 1, 1, 1, 1, 1};
        String page = "";
        Prog prog = null;
        final List<Tree> laws = new ArrayList<>();
        final List<Row> rows = new ArrayList<>();
        int seeks = 0;
        int mends = 0;
        int looked;
        int cut;
        int done;
        long[] shown = {-1, -1};

        static boolean in(int v, int a, int b) {
            return v >= a && v <= b;
        }

        int field(int f, int what, int v) {
            if (!in(f, 0, 7) || !in(what, 0, 3)) return -101;
            if (what == 0) {
                if (!in(v, 0, 4)) return -102;
                int others = 0;
                for (int g = 0; g < 8; g++) if (g != f && kind[g] == 3) others++;
                if (v == 3 && others == 3) return -103;
                int was = kind[f];
                kind[f] = v;
                return was;
            }
            if (what == 1) {
                if (!in(v, 0, 20) || v > greatest[f]) return -102;
                int was = least[f];
                least[f] = v;
                return was;
            }
            if (what == 2) {
                if (!in(v, 0, 20) || v < least[f]) return -102;
                int was = greatest[f];
                greatest[f] = v;
                return was;
            }
            if (!in(v, 1, 99)) return -102;
            if (kind[f] != 3) return -103;
            int was = price[f];
            price[f] = v;
            return was;
        }

        int as(int f, int k) {
            if (!in(f, 0, 7)) return -101;
            if (!in(k, 0, 4)) return -102;
            return k == 0 || kind[f] == k || (k == 1 && kind[f] == 2) ? f : -1;
        }

        boolean counts(int f) {
            return kind[f] != 1 && kind[f] != 2;
        }

        int asks(int f, int what) {
            if (!in(f, 0, 7)) return -101;
            if (!in(what, 0, 1)) return -102;
            return (what == 0 ? counts(f) : kind[f] == 3) ? 1 : 0;
        }

        int letters(long w) {
            byte[] bytes = new byte[8];
            for (int i = 0; i < 8; i++) bytes[i] = (byte) (w >> (8 * i));
            String more = "";
            int i = 0;
            while (i < 8 && bytes[i] != 0) more += (char) (bytes[i++] & 255);
            for (; i < 8; i++) if (bytes[i] != 0) return -102;
            for (char c : more.toCharArray()) if (c > 126) return -102;
            if (page.length() + more.length() > 80) return -104;
            page += more;
            return page.length();
        }

        int blank() {
            int had = page.length();
            page = "";
            return had;
        }

        static boolean begins(String text, int sort) {
            try {
                if (sort == 0) {
                    new Prog(text);
                } else {
                    Parser p = new Parser(text);
                    p.condition();
                    return p.at == text.length();
                }
                return true;
            } catch (Short e) {
                return true;
            } catch (Bad e) {
                return false;
            }
        }

        int fault(int sort) {
            if (!in(sort, 0, 1)) return -102;
            for (int n = 1; n <= page.length(); n++) {
                if (!begins(page.substring(0, n), sort)) return n - 1;
            }
            return page.length();
        }

        int program() {
            try {
                prog = new Prog(page);
                page = "";
                return prog.ends.size();
            } catch (Short | Bad e) {
                return -103;
            }
        }

        int law() {
            try {
                Parser p = new Parser(page);
                Tree c = p.condition();
                if (p.at != page.length()) return -103;
                if (laws.size() == 6) return -104;
                laws.add(c);
                page = "";
                return laws.size() - 1;
            } catch (Short | Bad e) {
                return -103;
            }
        }

        int strike() {
            if (laws.isEmpty()) return -103;
            laws.remove(laws.size() - 1);
            return laws.size();
        }

        static int[] person(long told) {
            if (told < 0 || told > 9999999999999999L) return null;
            String s = String.format("%016d", told);
            int[] p = new int[8];
            for (int f = 0; f < 8; f++) {
                int v = Integer.parseInt(s.substring(14 - 2 * f, 16 - 2 * f));
                if (v > 20 && v < 99) return null;
                p[f] = v == 99 ? -1 : v;
            }
            return p;
        }

        static long told(int[] p) {
            long t = 0;
            for (int f = 7; f >= 0; f--) t = t * 100 + p[f];
            return t;
        }

        boolean could(int[] p) {
            for (int f = 0; f < 8; f++) if (p[f] < least[f] || p[f] > greatest[f]) return false;
            for (Tree law : laws) if (!law.holds(p)) return false;
            return true;
        }

        int run(long told, int what) {
            int[] p = person(told);
            if (p == null || !in(what, 0, 2)) return -102;
            if (what == 2) return could(p) ? 1 : 0;
            return prog == null ? -103 : prog.run(p)[what];
        }

        /** A box as [first low, first high, second low, second high]. */
        int seek(int f, int boxes) {
            if (f != -1 && !in(f, 0, 7)) return -101;
            if (!in(boxes, 1, 2000)) return -102;
            if (prog == null || seeks == 40) return -103;
            seeks++;
            looked = cut = done = 0;
            shown = new long[] {-1, -1};
            List<int[][]> next = new ArrayList<>();
            next.add(new int[][] {least.clone(), greatest.clone(), least.clone(), greatest.clone()});
            while (!next.isEmpty()) {
                if (looked == boxes) return -2;
                int[][] box = next.remove(0);
                looked++;
                if (isDone(box, f)) {
                    done++;
                    continue;
                }
                int most = 1;
                int field = -1;
                int side = -1;
                for (int g = 0; g < 8; g++) {
                    for (int s = 0; s < 2; s++) {
                        int n = box[2 * s + 1][g] - box[2 * s][g] + 1;
                        if (n > most) {
                            most = n;
                            field = g;
                            side = s;
                        }
                    }
                }
                if (field < 0) {
                    shown = new long[] {told(box[0]), told(box[2])};
                    return 0;
                }
                cut++;
                int middle = (box[2 * side][field] + box[2 * side + 1][field]) / 2;
                boolean shared = f == -1 ? counts(field) : field != f;
                int[][] lower = copy(box);
                int[][] upper = copy(box);
                for (int s = 0; s < 2; s++) {
                    if (shared || s == side) {
                        lower[2 * s + 1][field] = middle;
                        upper[2 * s][field] = middle + 1;
                    }
                }
                next.add(0, upper);
                next.add(0, lower);
            }
            return 1;
        }

        static int[][] copy(int[][] box) {
            int[][] c = new int[4][];
            for (int i = 0; i < 4; i++) c[i] = box[i].clone();
            return c;
        }

        boolean isDone(int[][] box, int f) {
            for (Tree law : laws) {
                if (law.truth(box[0], box[1]) == 0 || law.truth(box[2], box[3]) == 0) return true;
            }
            if (f >= 0 && box[3][f] <= box[0][f]) return true;
            int a = prog.ends(box[0], box[1]);
            int b = prog.ends(box[2], box[3]);
            if (a == 3 || b == 3) return false;
            return f < 0 ? a == b : !(a == 2 && b == 1);
        }

        int sought(int what) {
            if (!in(what, 0, 2)) return -102;
            if (seeks == 0) return -103;
            return new int[] {looked, cut, done}[what];
        }

        long pair(int which) {
            return in(which, 0, 1) ? shown[which] : -2;
        }

        int ends(long lo, long hi) {
            int[] a = person(lo);
            int[] b = person(hi);
            if (a == null || b == null) return -102;
            for (int f = 0; f < 8; f++) if (a[f] < 0 || b[f] < 0 || a[f] > b[f]) return -102;
            return prog == null ? -103 : prog.ends(a, b);
        }

        int row(long told, int out) {
            int[] p = person(told);
            if (p == null || !in(out, -1, 1)) return -102;
            if (rows.size() == 24) return -104;
            rows.add(new Row(told, p, out));
            return rows.size();
        }

        int end(int row) {
            if (!in(row, 0, rows.size() - 1)) return -101;
            return prog == null ? -103 : prog.run(rows.get(row).p)[0];
        }

        List<Row> in(int f, int v) {
            List<Row> g = new ArrayList<>();
            for (Row row : rows) if (row.p[f] == v) g.add(row);
            return g;
        }

        int let(List<Row> g, Prog by) {
            int n = 0;
            for (Row row : g) if (by.run(row.p)[0] == 1) n++;
            return n;
        }

        int group(int f, int v, int what) {
            if (!in(f, 0, 7)) return -101;
            if (!in(v, 0, 20) || !in(what, 0, 3)) return -102;
            if (prog == null) return -103;
            int n = 0;
            for (Row row : in(f, v)) {
                boolean let = prog.run(row.p)[0] == 1;
                boolean good = row.out == 1;
                if (what == 0 || what == 1 && let || what == 2 && good || what == 3 && good && let) n++;
            }
            return n;
        }

        int refusal(int f, int v, int w, int part, int last) {
            if (!in(f, 0, 7)) return -101;
            if (!in(v, 0, 20) || !in(w, 0, 20) || v == w || !in(part, 0, last)) return -102;
            if (prog == null || in(f, v).isEmpty() || in(f, w).isEmpty()) return -103;
            return 0;
        }

        static int part(long a, long b, int part) {
            BigInteger x = BigInteger.valueOf(a);
            BigInteger y = BigInteger.valueOf(b);
            return (part == 0 ? x : y).divide(x.gcd(y)).intValueExact();
        }

        long gapAbove(List<Row> a, List<Row> b, Prog by) {
            return Math.abs((long) let(a, by) * b.size() - (long) let(b, by) * a.size());
        }

        int gap(int f, int v, int w, int part) {
            int no = refusal(f, v, w, part, 1);
            if (no != 0) return no;
            return part(gapAbove(in(f, v), in(f, w), prog), (long) in(f, v).size() * in(f, w).size(), part);
        }

        int odds(int f, int v, int w, int part) {
            int no = refusal(f, v, w, part, 1);
            if (no != 0) return no;
            List<Row> a = in(f, v);
            List<Row> b = in(f, w);
            int n = a.size();
            int m = b.size();
            int marks = let(a, prog) + let(b, prog);
            long gap = gapAbove(a, b, prog);
            long all = 0;
            long great = 0;
            for (int deal = 0; deal < 1 << (n + m); deal++) {
                if (Integer.bitCount(deal) == marks) {
                    all++;
                    int i = Integer.bitCount(deal & (1 << n) - 1);
                    if (Math.abs(i * m - (marks - i) * n) >= gap) great++;
                }
            }
            return part(great, all, part);
        }

        int where(int what) {
            if (!in(what, 0, 5)) return -102;
            if (prog == null) return -103;
            int[] best = {-1, -1, -1, -1, -1, 0};
            long above = -1;
            long below = 1;
            for (int f = 0; f < 8; f++) {
                for (int lo = least[f]; counts(f) && lo <= greatest[f]; lo++) {
                    for (int hi = lo; hi <= greatest[f]; hi++) {
                        List<Row> a = new ArrayList<>();
                        List<Row> b = new ArrayList<>();
                        for (Row row : rows) {
                            if (row.p[f] >= 0) (in(row.p[f], lo, hi) ? a : b).add(row);
                        }
                        if (a.isEmpty() || b.isEmpty()) continue;
                        best[5]++;
                        long x = gapAbove(a, b, prog);
                        long y = (long) a.size() * b.size();
                        if (x * below > above * y) {
                            above = x;
                            below = y;
                            best = new int[] {f, lo, hi, part(x, y, 0), part(x, y, 1), best[5]};
                        }
                    }
                }
            }
            return best[what];
        }

        static boolean same(int a, int x, int b, int y) {
            return x != 0 && y != 0 && (double) a / x - (double) b / y < 1e-9 && (double) b / y - (double) a / x < 1e-9;
        }

        static int most(int set, int g, int b, int h, int c) {
            int most = -1;
            for (int p = 0; p <= g; p++) for (int q = 0; q <= h; q++) for (int r = 0; r <= b; r++) for (int s = 0; s <= c; s++) {
                if (p + r == 0 || q + s == 0) continue;
                if ((set & 1) != 0 && !same(p + r, g + b, q + s, h + c)) continue;
                if ((set & 2) != 0 && !same(p, g, q, h)) continue;
                if ((set & 4) != 0 && !same(p, p + r, q, q + s)) continue;
                most = Math.max(most, p + q + r + s);
            }
            return most;
        }

        int askings(int set, int g, int b, int h, int c, int what) {
            for (int n : new int[] {g, b, h, c}) if (!in(n, 0, 9)) return -102;
            if (!in(set, 0, 7) || !in(what, 0, 2)) return -102;
            if (what == 0) return most(set, g, b, h, c) > 0 ? 1 : 0;
            if (what == 1) return most(set, g, b, h, c);
            int fewest = -1;
            for (int part = 0; part <= 7; part++) {
                if ((part & ~set) != 0 || most(part, g, b, h, c) < 0) continue;
                int up = Integer.bitCount(set) - Integer.bitCount(part);
                if (fewest < 0 || up < fewest) fewest = up;
            }
            return fewest;
        }

        int mend(int f, int v, int w, int what) {
            int no = refusal(f, v, w, what, 2);
            if (no != 0) return no;
            if (mends == 20) return -103;
            mends++;
            List<Row> a = in(f, v);
            List<Row> b = in(f, w);
            if (gapAbove(a, b, prog) == 0) return what == 0 ? -1 : 0;
            List<int[]> ways = new ArrayList<>();
            for (int i = 0; i < prog.numbers.size(); i++) {
                int[] at = prog.numbers.get(i);
                int was = Integer.parseInt(prog.text.substring(at[0], at[1]));
                for (int n = 0; n <= 99; n++) {
                    Prog other = new Prog(prog.text.substring(0, at[0]) + n + prog.text.substring(at[1]));
                    if (n != was && gapAbove(a, b, other) == 0) ways.add(new int[] {i, n, Math.abs(n - was)});
                }
            }
            ways.sort(Comparator.<int[]>comparingInt(x -> x[2]).thenComparingInt(x -> x[0]).thenComparingInt(x -> x[1]));
            return ways.isEmpty() ? -1 : ways.get(0)[what];
        }

        int[] cheapest(int[] from, int[] best) {
            List<int[]> persons = new ArrayList<>();
            persons.add(from.clone());
            for (int f = 0; f < 8; f++) {
                if (kind[f] != 3) continue;
                List<int[]> more = new ArrayList<>();
                for (int[] p : persons) {
                    for (int v = least[f]; v <= greatest[f]; v++) {
                        int[] q = p.clone();
                        q[f] = v;
                        more.add(q);
                    }
                }
                persons = more;
            }
            int[] found = null;
            for (int[] p : persons) {
                if (!could(p) || prog.run(p)[0] != 1) continue;
                if (found == null || cost(p, from) < cost(found, from)
                        || cost(p, from) == cost(found, from) && Arrays.compare(p, found) < 0) found = p;
            }
            return found;
        }

        int cost(int[] p, int[] from) {
            int sum = 0;
            for (int f = 0; f < 8; f++) sum += Math.abs(p[f] - from[f]) * price[f];
            return sum;
        }

        boolean refusedRow(int row) {
            if (prog == null) return false;
            for (int v : rows.get(row).p) if (v < 0) return false;
            return prog.run(rows.get(row).p)[0] == 0;
        }

        int refused(int row, int what) {
            if (!in(row, 0, rows.size() - 1)) return -101;
            if (what != 0 && !in(what, 10, 17)) return -102;
            if (!refusedRow(row)) return -103;
            int[] p = rows.get(row).p;
            int[] best = cheapest(p, null);
            return best == null ? -1 : what == 0 ? cost(best, p) : best[what - 10];
        }

        int sameFor(int row, int f, int v) {
            if (!in(row, 0, rows.size() - 1) || !in(f, 0, 7)) return -101;
            if (counts(f) || !in(v, least[f], greatest[f])) return -102;
            if (!refusedRow(row)) return -103;
            int[] p = rows.get(row).p.clone();
            p[f] = v;
            int[] best = cheapest(p, null);
            return best == null ? -1 : cost(best, p);
        }

        int count(int what) {
            if (!in(what, 0, 6)) return -102;
            return new int[] {prog == null ? 0 : prog.ends.size(), laws.size(), rows.size(), page.length(),
                prog == null ? 0 : prog.numbers.size(), seeks, mends}[what];
        }

        long digest() {
            List<Long> all = new ArrayList<>();
            for (int f = 0; f < 8; f++) for (int n : new int[] {kind[f], least[f], greatest[f], price[f]}) all.add((long) n);
            for (Row row : rows) {
                all.add(row.told);
                all.add((long) row.out);
                all.add((long) (prog == null ? -1 : prog.run(row.p)[0]));
            }
            for (int[] p : new int[][] {new int[8], greatest}) {
                for (int what = 0; what < 3; what++) all.add((long) (what < 2 && prog == null ? -1 : run(told(p), what)));
            }
            for (int what = 0; what < 6 && prog != null; what++) all.add((long) where(what));
            for (char c : page.toCharArray()) all.add((long) c);
            for (int what = 0; what < 7; what++) all.add((long) count(what));
            long h = 307;
            for (long n : all) h = 31 * h + n;
            return h;
        }
    }
}
