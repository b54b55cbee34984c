/** Each promise of the document by itself: ordinary inputs, the edges it names, wrong inputs. */
public final class PromiseTest extends Dues {
    public static void main(String[] args) throws Exception {
        runAll(PromiseTest.class);
    }

    private static void newObject() {
        due("NONE", AlikeUnlike.NONE, NONE);
        due("SPENT", AlikeUnlike.SPENT, SPENT);
        due("UNKNOWN", AlikeUnlike.UNKNOWN, UNKNOWN);
        due("OUTSIDE", AlikeUnlike.OUTSIDE, OUTSIDE);
        due("STATE", AlikeUnlike.STATE, STATE);
        due("FULL", AlikeUnlike.FULL, FULL);
        AlikeUnlike x = new AlikeUnlike();
        for (int f = 0; f < 8; f++) {
            due("kind", x.field(f, 0, 3), 0);
            due("price", x.field(f, 3, 1), 1);
            due("kind", x.field(f, 0, 0), 3);
            due("least", x.field(f, 1, 0), 0);
            due("greatest", x.field(f, 2, 9), 9);
        }
        for (int what = 0; what <= 6; what++) {
            due("count", x.count(what), 0);
        }
        due("run", x.run(0, 0), STATE);
        due("strike", x.strike(), STATE);
        due("run", x.run(909090909090909L, 2), 1);
    }

    private static void field() {
        AlikeUnlike x = new AlikeUnlike();
        due("field -1", x.field(-1, 0, 0), UNKNOWN);
        due("field 8", x.field(8, 9, 99), UNKNOWN);
        due("what -1", x.field(0, -1, 0), UNKNOWN);
        due("what 4", x.field(0, 4, MIN), UNKNOWN);
        due("kind 5", x.field(0, 0, 5), OUTSIDE);
        due("kind -1", x.field(0, 0, -1), OUTSIDE);
        due("least 10", x.field(0, 1, 10), OUTSIDE);
        due("least -1", x.field(0, 1, -1), OUTSIDE);
        due("least 9", x.field(0, 1, 9), 0);
        due("greatest 8", x.field(0, 2, 8), OUTSIDE);
        due("greatest 21", x.field(0, 2, 21), OUTSIDE);
        due("greatest 20", x.field(0, 2, 20), 9);
        due("least 20", x.field(0, 1, 20), 9);
        due("greatest 20", x.field(0, 2, 20), 20);
        due("price 0 of no MAY", x.field(0, 3, 0), OUTSIDE);
        due("price 1 of no MAY", x.field(0, 3, 1), STATE);
        due("MAY", x.field(0, 0, 3), 0);
        due("price 100", x.field(0, 3, 100), OUTSIDE);
        due("price 99", x.field(0, 3, 99), 1);
        due("price 1", x.field(0, 3, 1), 99);
        due("second MAY", x.field(1, 0, 3), 0);
        due("third MAY", x.field(2, 0, 3), 0);
        due("third MAY again", x.field(2, 0, 3), 3);
        due("fourth MAY", x.field(3, 0, 3), STATE);
        due("fourth is FIELD still", x.field(3, 0, 4), 0);
        due("no MAY more", x.field(1, 0, 2), 3);
        due("now it is third", x.field(3, 0, 3), 4);
    }

    private static void as() {
        AlikeUnlike x = new AlikeUnlike();
        for (int kind = 0; kind <= 4; kind++) {
            x.field(kind, 0, kind);
        }
        for (int f = 0; f <= 4; f++) {
            for (int kind = 0; kind <= 4; kind++) {
                boolean is = kind == 0 || f == kind || f == 2 && kind == 1;
                due("as(" + f + ", " + kind + ")", x.as(f, kind), is ? f : NONE);
            }
        }
        due("as(8, 9)", x.as(8, 9), UNKNOWN);
        due("as(-1, 0)", x.as(-1, 0), UNKNOWN);
        due("as(0, -1)", x.as(0, -1), OUTSIDE);
        due("as(0, 5)", x.as(0, 5), OUTSIDE);
    }

    private static void asks() {
        AlikeUnlike x = new AlikeUnlike();
        int[] counts = {1, 0, 0, 1, 1};
        int[] changes = {0, 0, 0, 1, 0};
        for (int kind = 0; kind <= 4; kind++) {
            x.field(7, 0, kind);
            due("COUNTS of kind " + kind, x.asks(7, 0), counts[kind]);
            due("CHANGES of kind " + kind, x.asks(7, 1), changes[kind]);
        }
        due("asks(8, 2)", x.asks(8, 2), UNKNOWN);
        due("asks(MIN, 0)", x.asks(MIN, 0), UNKNOWN);
        due("asks(0, 2)", x.asks(0, 2), OUTSIDE);
        due("asks(0, -1)", x.asks(0, -1), OUTSIDE);
    }

    private static void letters() {
        AlikeUnlike x = new AlikeUnlike();
        due("none", x.letters(0), 0);
        due("one", x.letters('a'), 1);
        due("eight", x.letters(word("bcdefghi")), 9);
        due("126", x.letters(126), 10);
        due("127", x.letters(127), OUTSIDE);
        due("255", x.letters(255), OUTSIDE);
        due("-1", x.letters(-1), OUTSIDE);
        due("MIN", x.letters(Long.MIN_VALUE), OUTSIDE);
        due("behind a 0", x.letters(0x6100), OUTSIDE);
        due("behind a 0 far off", x.letters(0x0100000000000061L), OUTSIDE);
        due("127 as eighth", x.letters(0x7f61616161616161L), OUTSIDE);
        due("nothing changed", x.count(3), 10);
        for (int i = 0; i < 8; i++) {
            x.letters(word("aaaaaaaa"));
        }
        due("74 of 80", x.count(3), 74);
        due("7 more", x.letters(word("aaaaaaa")), FULL);
        due("wrong ones when full", x.letters(0x7f61616161616161L), OUTSIDE);
        due("6 more", x.letters(word("aaaaaa")), 80);
        due("none more", x.letters(0), 80);
        due("one more", x.letters('a'), FULL);
    }

    private static void blank() {
        AlikeUnlike x = new AlikeUnlike();
        due("empty", x.blank(), 0);
        x.letters(word("abc"));
        due("three", x.blank(), 3);
        due("empty again", x.blank(), 0);
        due("count", x.count(3), 0);
        due("from the beginning", x.letters('0'), 1);
    }

    private static void fault() {
        AlikeUnlike x = new AlikeUnlike();
        due("sort -1", x.fault(-1), OUTSIDE);
        due("sort 2", x.fault(2), OUTSIDE);
        Object[][] all = {
            {"", 0, 0}, {":", 1, 0}, {":0", 2, 0}, {":1", 2, 0}, {":2", 1, 0}, {":10", 2, 0}, {":1;", 2, 0},
            {"a", 1, 1}, {"i", 0, 0}, {"A", 0, 0}, {"a<", 2, 2}, {"a<1", 3, 3}, {"a<1:", 4, 3}, {"a<1:0;:1", 8, 3},
            {"a<1:0:", 5, 3}, {"a<1:0;", 6, 3}, {"a<1:0;;", 6, 3}, {"a<1;", 3, 3}, {"a:", 1, 1},
            {"a<1<2", 3, 3}, {"a&b<1", 1, 1}, {"12<a", 4, 4}, {"123<a", 2, 2}, {"1a<2", 1, 1}, {"ab<2", 1, 1}, {"a1", 1, 1},
            {"a*b*c<1", 7, 7}, {"a*b*c*d<1", 5, 5}, {"a*b*c+d*e*f<1", 13, 13}, {"a<1*2*3*4", 7, 7},
            {"a+b-c*2<3", 9, 9}, {"-a<1", 0, 0}, {"a--b<1", 2, 2}, {"a+*b", 2, 2}, {"a<-1", 2, 2},
            {"!a<1", 4, 4}, {"!!!(a<1)", 8, 8}, {"a<!1", 2, 2}, {"a!", 1, 1},
            {"(a<1)", 5, 5}, {"(a)<1", 2, 2}, {"(a<1))", 5, 5}, {"a<1)", 3, 3}, {"((a<1)|b=2", 10, 10},
            {"(a<1:", 4, 4}, {"(a<1)(", 5, 5}, {"(a<1)+1", 5, 5}, {"a<(1)", 2, 2}, {"()", 1, 1},
            {"a<1&b=2|c>3", 11, 11}, {"a<1&&b", 4, 4}, {"a<1|", 4, 4}, {"a<1&|", 4, 4}, {"a<1& b", 4, 4},
            {"a<1&:", 4, 4}, {"!:", 1, 1}, {"a<99:1;b<00:0;:1", 16, 4}, {"\001", 0, 0},
        };
        for (Object[] one : all) {
            put(x, (String) one[0]);
            due("fault(0) of " + one[0], x.fault(0), (Integer) one[1]);
            due("fault(1) of " + one[0], x.fault(1), (Integer) one[2]);
            due("the page stays", x.count(3), ((String) one[0]).length());
        }
        for (String s : new String[] {"(", "!", "(!"}) {
            put(x, times(s, 80 / s.length()));
            due("fault(0) of many " + s, x.fault(0), 80);
            due("fault(1) of many " + s, x.fault(1), 80);
        }
    }

    private static void program() {
        AlikeUnlike x = new AlikeUnlike();
        due("empty", x.program(), STATE);
        for (String text : new String[] {":", "a<1", "a<1:0", "a<1:0;", "a<1:0;:", "(a<1:0;:1", "a:0;:1", ":1:1", "a<1:2;:1"}) {
            put(x, text);
            due("program " + text, x.program(), STATE);
            due("the page stays", x.count(3), text.length());
        }
        due("still none", x.run(0, 0), STATE);
        put(x, ":1");
        due(":1", x.program(), 1);
        due("the page is empty", x.count(3), 0);
        due("run", x.run(0, 0), 1);
        put(x, "a<1:0;b<1:1;c<1:0;:1");
        due("four lines", x.program(), 4);
        due("another is gone", x.run(0, 0), 0);
        put(x, "nonsense");
        due("none", x.program(), STATE);
        due("the old one stays", x.count(0), 4);
        put(x, times("(", 36) + "a=1" + times(")", 36) + ":1;:0");
        due("deep", x.program(), 2);
        due("deep holds", x.run(1, 0), 1);
        due("deep fails", x.run(0, 0), 0);
        put(x, times("!", 71) + "a=1:1;:0");
        due("many !", x.program(), 2);
        due("odd many !", x.run(1, 0), 0);
        due("odd many !", x.run(0, 0), 1);
    }

    private static void law() {
        AlikeUnlike x = new AlikeUnlike();
        due("empty", x.law(), STATE);
        for (String text : new String[] {"a", "a<", "(a<1", "a<1:0;:1", "a<1&", ":1", "a+1<"}) {
            put(x, text);
            due("law " + text, x.law(), STATE);
            due("the page stays", x.count(3), text.length());
        }
        for (int i = 0; i < 6; i++) {
            put(x, "a<" + (i + 1));
            due("law " + i, x.law(), i);
            due("the page is empty", x.count(3), 0);
        }
        put(x, "b<1");
        due("seventh", x.law(), FULL);
        due("the page stays", x.count(3), 3);
        put(x, "b<");
        due("none, and full", x.law(), STATE);
        due("all hold", x.run(0, 2), 1);
        due("the first does not", x.run(1, 2), 0);
    }

    private static void strike() {
        AlikeUnlike x = new AlikeUnlike();
        due("none", x.strike(), STATE);
        lay(x, "a<5");
        lay(x, "a<3");
        due("run", x.run(4, 2), 0);
        due("the last", x.strike(), 1);
        due("run", x.run(4, 2), 1);
        due("the first stays", x.run(5, 2), 0);
        put(x, "b=1");
        due("its number is 1 again", x.law(), 1);
        due("run", x.run(4, 2), 0);
        due("strike", x.strike(), 1);
        due("strike", x.strike(), 0);
        due("strike", x.strike(), STATE);
        due("run", x.run(5, 2), 1);
    }

    private static void run() {
        AlikeUnlike x = new AlikeUnlike();
        for (long person : new long[] {-1, Long.MIN_VALUE, Long.MAX_VALUE, 10000000000000000L, 21, 98, 2100, 9800, 2100000000000000L}) {
            due("person " + person, x.run(person, 2), OUTSIDE);
        }
        due("what 3 without program", x.run(0, 3), OUTSIDE);
        due("what -1", x.run(0, -1), OUTSIDE);
        due("no program", x.run(0, 0), STATE);
        due("no program", x.run(0, 1), STATE);
        due("could come", x.run(0, 2), 1);
        due("all missing", x.run(9999999999999999L, 2), 0);
        due("above its span", x.run(10, 2), 0);
        x = with("a<3&b>1|c=2:1;d=5:0;:1");
        due("first term", x.run(201, 0), 1);
        due("its line", x.run(201, 1), 0);
        due("second term", x.run(20009, 1), 0);
        due("second line", x.run(5000005, 0), 0);
        due("second line", x.run(5000005, 1), 1);
        due("last line", x.run(5, 0), 1);
        due("last line", x.run(5, 1), 2);
        due("a is missing", x.run(20099, 0), 2);
        due("the host", x.run(20099, 1), NONE);
        due("b is not read", x.run(9905, 0), 1);
        due("b is read", x.run(9901, 0), 2);
        due("c is not read", x.run(990201, 0), 1);
        due("c is read", x.run(990101, 0), 2);
        due("d is not read", x.run(99020000, 1), 0);
        due("d is read", x.run(99000005, 0), 2);
        due("h is never read", x.run(9900000000000005L, 0), 1);
        check("0*a=0:1;:0", 99, 2);
        check("!a<3:1;:0", 3, 1);
        check("!a<3:1;:0", 2, 0);
        check("!a=1|b=1:1;:0", 101, 1);
        check("!(a=1|b=1):1;:0", 101, 0);
        check("a=1|b=1&c=1:1;:0", 1, 1);
        check("(a=1|b=1)&c=1:1;:0", 1, 0);
        check("!a=1&b=1:1;:0", 0, 0);
        check("2+3*4=14:1;:0", 0, 1);
        check("9-3-2=4:1;:0", 0, 1);
        check("2-3<0:1;:0", 0, 1);
        check("99*99*99>99*99*98:1;:0", 0, 1);
        check("99*99*99-98*99*99=99*99:1;:0", 0, 1);
        check("07=a:1;:0", 7, 1);
        check("a-b*2+c=7:1;:0", 30206, 0);
        check("a-b*2+c=5:1;:0", 30206, 1);
        check("h=20:1;:0", 2000000000000000L, 1);
        check("!(a=1&b=1)|c=9:1;:0", 99, 2);
        x = new AlikeUnlike();
        x.field(1, 1, 3);
        lay(x, "a<b");
        due("below its span", x.run(200, 2), 0);
        due("within", x.run(300, 2), 1);
        due("law", x.run(303, 2), 0);
        due("missing what no law reads", x.run(990300, 2), 0);
    }

    private static void check(String program, long person, int end) {
        due(program + " on " + person, with(program).run(person, 0), end);
    }

    private static void seek() {
        AlikeUnlike x = new AlikeUnlike();
        due("f -2", x.seek(-2, 0), UNKNOWN);
        due("f 8", x.seek(8, 1), UNKNOWN);
        due("boxes 0", x.seek(-1, 0), OUTSIDE);
        due("boxes 2001", x.seek(-1, 2001), OUTSIDE);
        due("no program", x.seek(-1, 2000), STATE);
        x = with("a=1:1;:0");
        narrow(x, 0, 1);
        seekDue(x, -1, 1, SPENT, 1, 1, 0);
        seekDue(x, -1, 2, SPENT, 2, 1, 1);
        seekDue(x, -1, 3, 1, 3, 1, 2);
        x.field(0, 0, 1);
        seekDue(x, -1, 3, SPENT, 3, 2, 1);
        seekDue(x, -1, 4, 0, 4, 2, 1);
        due("first", x.pair(0), 0);
        due("second", x.pair(1), 1);
        seekDue(x, 0, 2000, 1, 5, 2, 3);
        lay(x, "a=0");
        seekDue(x, -1, 2000, 1, 5, 2, 3);
        x = with("a=1:0;:1");
        narrow(x, 0, 1);
        seekDue(x, 0, 4, 0, 4, 2, 1);
        due("first", x.pair(0), 0);
        due("second", x.pair(1), 1);
        // The widest is cut first; of like ones the least FIELD, the first one's ahead.
        x = with("b>4:1;c=1:1;:0");
        narrow(x, 1, 4, 2, 1);
        x.field(2, 0, 2);
        seekDue(x, -1, 2000, 0, 7, 5, 1);
        due("first", x.pair(0), 0);
        due("second", x.pair(1), 10000);
        // Sums of one FIELD are not known to go together: a-a is MAYBE 0.
        x = with("a-a=0:1;:0");
        narrow(x, 0, 1);
        x.field(0, 0, 1);
        seekDue(x, -1, 2000, 1, 7, 3, 4);
        // MORE in another FIELD than the first: d is better, but for 2.
        x = with("d=2:0;d>0:1;:0");
        narrow(x, 0, 2, 3, 2);
        seekDue(x, 3, 2000, 0, 18, 10, 7);
        due("first", x.pair(0), 1000000);
        due("second", x.pair(1), 2000000);
        seekDue(x, 0, 2000, 1, 21, 10, 11);
        // Of LAWS each one tells: the second one bars what the first lets.
        x = with("b=1:1;:0");
        narrow(x, 0, 1, 1, 1);
        x.field(1, 0, 1);
        lay(x, "a<9");
        lay(x, "!(b=1&a>0)");
        lay(x, "a=1");
        seekDue(x, -1, 2000, 1, 7, 3, 4);
        // Both let: no PAIR of MORE.
        x = with(":1");
        seekDue(x, 0, 1, 1, 1, 0, 1);
        // The most BOXES that can be piled: 16 spans of 21, each cut five times, until the last leaf but one.
        x = with("a-a+b-b+c-c+d-d+e-e+f-f+g-g+h-h=0&h=1:1;:0");
        for (int f = 0; f < 8; f++) {
            x.field(f, 0, f % 2 + 1);
            x.field(f, 2, 20);
        }
        seekDue(x, -1, 82, 0, 82, 80, 1);
        due("first", x.pair(0), 0);
        due("second", x.pair(1), 100000000000000L);
        seekDue(x, -1, 81, SPENT, 81, 80, 1);
        // ENDS of both lines are the same: nothing is cut.
        x = with("a<5:1;:1");
        seekDue(x, -1, 1, 1, 1, 0, 1);
        for (int i = 1; i < 40; i++) {
            due("seek " + i, x.seek(-1, 1), 1);
        }
        due("seek 40", x.seek(-1, 1), STATE);
        due("count", x.count(5), 40);
        due("OUTSIDE is ahead", x.seek(-1, MAX), OUTSIDE);
    }

    private static void sought() {
        AlikeUnlike x = with(":1");
        due("nothing was", x.sought(0), STATE);
        due("what 3", x.sought(3), OUTSIDE);
        due("what -1", x.sought(-1), OUTSIDE);
        seekDue(x, -1, 7, 1, 1, 0, 1);
        due("refused", x.seek(9, 7), UNKNOWN);
        due("of the last one", x.sought(0), 1);
        due("what MAX", x.sought(MAX), OUTSIDE);
    }

    private static void pair() {
        AlikeUnlike x = with("h=1:1;:0");
        due("none yet", x.pair(0), -1);
        due("none yet", x.pair(1), -1);
        due("which -1", x.pair(-1), -2);
        due("which 2", x.pair(2), -2);
        narrow(x, 0, 3, 7, 1);
        x.field(0, 1, 3);
        x.field(7, 0, 1);
        due("seek", x.seek(-1, 2000), 0);
        due("first", x.pair(0), 3);
        due("second", x.pair(1), 100000000000003L);
        put(x, ":0");
        x.program();
        due("still", x.pair(1), 100000000000003L);
        due("seek", x.seek(-1, 1), 1);
        due("no pair", x.pair(0), -1);
        due("no pair", x.pair(1), -1);
    }

    private static void ends() {
        AlikeUnlike x = new AlikeUnlike();
        due("missing", x.ends(99, 0), OUTSIDE);
        due("missing", x.ends(0, 99), OUTSIDE);
        due("both missing", x.ends(99, 99), OUTSIDE);
        due("least above greatest", x.ends(1, 0), OUTSIDE);
        due("least above greatest in b alone", x.ends(100, 20), OUTSIDE);
        due("no person", x.ends(-1, 0), OUTSIDE);
        due("no person", x.ends(0, 30), OUTSIDE);
        due("no program", x.ends(0, 0), STATE);
        x = with("a<5:1;b<5:0;:1");
        due("sure", x.ends(0, 4), 2);
        due("never, sure", x.ends(5, 409), 1);
        due("maybe, sure", x.ends(4, 5), 3);
        due("never, never", x.ends(505, 2020), 2);
        due("never, maybe", x.ends(5, 505), 3);
        x = with("a-b>0:1;:0");
        due("minus", x.ends(300, 305), 3);
        due("minus", x.ends(300, 303), 1);
        due("minus", x.ends(4, 305), 2);
        due("minus", x.ends(4, 304), 2);
        x = with("a+b>5:1;:0");
        due("plus", x.ends(102, 203), 1);
        due("plus", x.ends(102, 204), 3);
        due("plus", x.ends(204, 509), 2);
        due("plus", x.ends(203, 509), 3);
        x = with("a*b*2>12:1;:0");
        due("times", x.ends(101, 203), 1);
        due("times", x.ends(101, 303), 3);
        due("times", x.ends(107, 307), 2);
        due("times", x.ends(106, 307), 3);
        x = with("a*b=6:1;:0");
        due("meets", x.ends(1, 507), 3);
        due("one and the same", x.ends(302, 302), 2);
        due("do not meet", x.ends(303, 404), 1);
        x = with("a=b:1;:0");
        due("spans meet in one number", x.ends(300, 503), 3);
        due("spans do not meet", x.ends(400, 503), 1);
        due("the same span", x.ends(0, 101), 3);
        x = with("a>3:1;:0");
        due("never above", x.ends(0, 3), 1);
        due("maybe above", x.ends(0, 4), 3);
        due("surely above", x.ends(4, 9), 2);
        due("maybe above", x.ends(3, 9), 3);
        x = with("!a>3&(b=1|b=2):1;:0");
        due("three truths", x.ends(100, 103), 2);
        due("three truths", x.ends(100, 203), 3);
        due("three truths", x.ends(104, 120), 1);
    }

    private static void row() {
        AlikeUnlike x = new AlikeUnlike();
        due("person", x.row(-1, 0), OUTSIDE);
        due("person", x.row(21, 0), OUTSIDE);
        due("out 2", x.row(0, 2), OUTSIDE);
        due("out -2", x.row(0, -2), OUTSIDE);
        for (int i = 1; i <= 24; i++) {
            due("row", x.row(9999999999999999L, i % 3 - 1), i);
        }
        due("25th", x.row(0, 0), FULL);
        due("25th, wrong", x.row(0, 3), OUTSIDE);
        due("count", x.count(2), 24);
    }

    private static void end() {
        AlikeUnlike x = new AlikeUnlike();
        due("no row", x.end(0), UNKNOWN);
        x.row(3, 1);
        x.row(99, 1);
        x.row(7, 0);
        due("no program", x.end(0), STATE);
        due("no such row", x.end(3), UNKNOWN);
        due("no such row", x.end(-1), UNKNOWN);
        put(x, "a<5:1;:0");
        x.program();
        due("let", x.end(0), 1);
        due("the host refuses", x.end(1), 2);
        due("refused", x.end(2), 0);
        put(x, "a>5:1;:0");
        x.program();
        due("by the new program", x.end(0), 0);
        due("by the new program", x.end(2), 1);
        x.row(8, 0);
        due("a later row", x.end(3), 1);
    }

    /** By b: 0 has 4 (2 let, 3 good, 1 both), 1 has 3 (all let, none good), 2 has 1 (not let), one is missing. */
    private static AlikeUnlike rows() {
        AlikeUnlike x = with("a>4:1;:0");
        x.row(5, 1);
        x.row(6, 0);
        x.row(1, 1);
        x.row(99, 1);
        x.row(105, 0);
        x.row(106, -1);
        x.row(107, 0);
        x.row(201, 1);
        x.row(9907, 1);
        return x;
    }

    private static void group() {
        AlikeUnlike x = rows();
        int[][] due = {{4, 2, 3, 1}, {3, 3, 0, 0}, {1, 0, 1, 0}, {0, 0, 0, 0}};
        for (int v = 0; v <= 3; v++) {
            for (int what = 0; what <= 3; what++) {
                due("group(1, " + v + ", " + what + ")", x.group(1, v, what), due[v][what]);
            }
        }
        due("field 8", x.group(8, 21, 4), UNKNOWN);
        due("v -1", x.group(1, -1, 0), OUTSIDE);
        due("v 21", x.group(1, 21, 0), OUTSIDE);
        due("v 20", x.group(1, 20, 0), 0);
        due("what 4", x.group(1, 0, 4), OUTSIDE);
        due("what -1", x.group(1, 0, -1), OUTSIDE);
        due("no program", new AlikeUnlike().group(1, 0, 0), STATE);
    }

    private static void gap() {
        AlikeUnlike x = rows();
        due("1/2 - 1", x.gap(1, 0, 1, 0), 1);
        due("1/2 - 1", x.gap(1, 0, 1, 1), 2);
        due("1 - 1/2", x.gap(1, 1, 0, 0), 1);
        due("1 - 0", x.gap(1, 1, 2, 0), 1);
        due("1 - 0", x.gap(1, 1, 2, 1), 1);
        due("group of no row", x.gap(1, 0, 3, 0), STATE);
        due("group of no row", x.gap(1, 3, 0, 0), STATE);
        due("the same", x.gap(1, 3, 3, 0), OUTSIDE);
        due("v", x.gap(1, 21, 0, 0), OUTSIDE);
        due("w", x.gap(1, 0, -1, 0), OUTSIDE);
        due("no row at 20", x.gap(1, 20, 0, 0), STATE);
        due("no row at 20", x.gap(1, 0, 20, 0), STATE);
        due("part", x.gap(1, 0, 1, 2), OUTSIDE);
        due("part", x.gap(1, 0, 1, -1), OUTSIDE);
        due("field", x.gap(-1, 0, 0, 2), UNKNOWN);
        due("no program", new AlikeUnlike().gap(0, 0, 1, 0), STATE);
        put(x, ":1");
        x.program();
        due("nought above", x.gap(1, 0, 1, 0), 0);
        due("nought below", x.gap(1, 0, 1, 1), 1);
        x = with("c=1:1;:0");
        for (long person : new long[] {0, 10000, 10000, 100, 100, 100, 100, 100, 10100}) {
            x.row(person, 0);
        }
        due("2/3 - 1/6", x.gap(1, 0, 1, 0), 1);
        due("2/3 - 1/6", x.gap(1, 0, 1, 1), 2);
    }

    private static void odds() {
        AlikeUnlike x = rows();
        // 5 marks among 4 and 3: 2+3 (6 ways), 3+2 (12), 4+1 (3); gaps 1/2, 1/12, 2/3.
        due("9 of 21", x.odds(1, 0, 1, 0), 3);
        due("9 of 21", x.odds(1, 0, 1, 1), 7);
        due("field", x.odds(8, 0, 0, 2), UNKNOWN);
        due("the same", x.odds(1, 0, 0, 0), OUTSIDE);
        due("part", x.odds(1, 0, 1, 2), OUTSIDE);
        due("no row", x.odds(1, 0, 9, 0), STATE);
        due("no program", new AlikeUnlike().odds(0, 0, 1, 0), STATE);
        put(x, ":0");
        x.program();
        due("no marks", x.odds(1, 0, 1, 0), 1);
        due("no marks", x.odds(1, 0, 1, 1), 1);
        x = with("a=1:1;:0");
        for (int i = 0; i < 12; i++) {
            x.row(1, 0);
            x.row(100, 0);
        }
        due("2 of C(24, 12)", x.odds(1, 0, 1, 0), 1);
        due("2 of C(24, 12)", x.odds(1, 0, 1, 1), 1352078);
    }

    private static void where() {
        AlikeUnlike x = new AlikeUnlike();
        due("what 6", x.where(6), OUTSIDE);
        due("what -1", x.where(-1), OUTSIDE);
        due("no program", x.where(0), STATE);
        x = with("a>1&a<4:1;:0");
        whereDue(x, NONE, NONE, NONE, NONE, NONE, 0);
        narrow(x, 0, 5);
        for (int a = 0; a <= 5; a++) {
            x.row(a, 0);
        }
        // 21 spans, but for the whole one.
        whereDue(x, 0, 2, 3, 1, 1, 20);
        x.row(99, 1);
        whereDue(x, 0, 2, 3, 1, 1, 20);
        // A row above the SPAN is out of every span.
        x.field(0, 2, 4);
        whereDue(x, 0, 2, 3, 1, 1, 15);
        // Of like ones the least FIELD, then least, then greatest: b = a, and 1 and 3 are nobody's.
        x = with("a>2:1;:0");
        narrow(x, 0, 5, 1, 5);
        x.row(0, 0);
        x.row(202, 0);
        x.row(404, 0);
        whereDue(x, 0, 0, 2, 1, 1, 32);
        x.field(0, 0, 1);
        whereDue(x, 1, 0, 2, 1, 1, 16);
        x.field(1, 0, 2);
        whereDue(x, NONE, NONE, NONE, NONE, NONE, 0);
        // The highest number, and tallies that are made anew for each FIELD.
        x = with("c=20:1;:0");
        narrow(x, 1, 20, 2, 20);
        x.field(1, 1, 19);
        x.field(2, 1, 19);
        x.row(202000, 0);
        x.row(191900, 0);
        whereDue(x, 1, 19, 19, 1, 1, 4);
        x.row(192000, 0);
        whereDue(x, 2, 19, 19, 1, 1, 4);
        x.row(201900, 0);
        whereDue(x, 2, 19, 19, 1, 1, 4);
        // A gap of nought is a gap, too.
        x = with(":1");
        narrow(x, 3, 1);
        x.row(0, 0);
        x.row(1000000, 0);
        whereDue(x, 3, 0, 0, 0, 1, 2);
    }

    private static void askings() {
        AlikeUnlike x = new AlikeUnlike();
        askingsDue(x, 0, 9, 9, 9, 9, 1, 36, 0);
        askingsDue(x, 7, 3, 2, 3, 2, 1, 10, 0);
        askingsDue(x, 0, 0, 0, 1, 1, 0, NONE, NONE);
        askingsDue(x, 7, 1, 1, 0, 0, 0, NONE, NONE);
        // No good ones in the second group: asking 1 has no share there.
        askingsDue(x, 2, 1, 1, 0, 2, 0, NONE, 1);
        askingsDue(x, 1, 1, 1, 0, 2, 1, 4, 0);
        askingsDue(x, 2, 0, 2, 1, 1, 0, NONE, 1);
        askingsDue(x, 4, 1, 1, 0, 1, 1, 2, 0);
        // All good against all bad: of those LET the shares are 1 and 0.
        askingsDue(x, 4, 2, 0, 0, 2, 0, NONE, 1);
        askingsDue(x, 7, 2, 0, 0, 2, 0, NONE, 2);
        // p/1 = q/2: nobody good, or all.
        askingsDue(x, 2, 1, 0, 2, 0, 1, 3, 0);
        askingsDue(x, 6, 1, 1, 1, 0, 1, 2, 0);
        askingsDue(x, 7, 1, 1, 1, 0, 0, NONE, 1);
        due("set -1", x.askings(-1, 0, 0, 0, 0, 0), OUTSIDE);
        due("set 8", x.askings(8, 0, 0, 0, 0, 0), OUTSIDE);
        due("g", x.askings(0, 10, 0, 0, 0, 0), OUTSIDE);
        due("b", x.askings(0, 0, 10, 0, 0, 0), OUTSIDE);
        due("h", x.askings(0, 0, 0, -1, 0, 0), OUTSIDE);
        due("c", x.askings(0, 0, 0, 0, MAX, 0), OUTSIDE);
        due("what 3", x.askings(0, 0, 0, 0, 0, 3), OUTSIDE);
        due("what -1", x.askings(0, 0, 0, 0, 0, -1), OUTSIDE);
    }

    private static void mend() {
        due("no program", new AlikeUnlike().mend(0, 0, 1, 0), STATE);
        AlikeUnlike x = with("a>4:1;:0");
        x.row(7, 0);
        x.row(103, 0);
        due("field", x.mend(8, 0, 0, 3), UNKNOWN);
        due("the same", x.mend(1, 0, 0, 0), OUTSIDE);
        due("what 3", x.mend(1, 0, 1, 3), OUTSIDE);
        due("what -1", x.mend(1, 0, 1, -1), OUTSIDE);
        due("no row", x.mend(1, 0, 2, 0), STATE);
        due("not done", x.count(6), 0);
        // 4 to 2 lets both, 4 to 7 lets none.
        mendDue(x, 1, 0, 1, 0, 2, 2);
        due("the program stays", x.run(3, 0), 0);
        due("the rows' runs stay", x.end(1), 0);
        due("done", x.count(6), 3);
        // Of like changes the least number of the text, then the lesser one.
        x = with("a>4&a<6:1;:0");
        x.row(5, 0);
        x.row(109, 0);
        mendDue(x, 1, 0, 1, 0, 5, 1);
        x = with("a=4:1;:0");
        x.row(4, 0);
        x.row(108, 0);
        mendDue(x, 1, 0, 1, 0, 3, 1);
        x = with("9<a:1;:0");
        x.row(20, 0);
        x.row(119, 0);
        mendDue(x, 1, 0, 1, NONE, 0, 0);
        // To 0, and by 99.
        x = with("1>a:1;:0");
        x.row(0, 0);
        x.row(105, 0);
        mendDue(x, 1, 0, 1, 0, 0, 1);
        x = with("0<a*c:1;:0");
        x.row(90011, 0);
        x.row(100, 0);
        mendDue(x, 1, 0, 1, 0, 99, 99);
        // Each call by its own groups, whoever else came.
        x = with("a>4:1;:0");
        x.row(7, 0);
        x.row(103, 0);
        x.row(208, 0);
        x.row(200, 0);
        x.row(209, 0);
        mendDue(x, 1, 0, 1, 0, 2, 2);
        mendDue(x, 1, 0, 2, 0, 9, 5);
        mendDue(x, 1, 1, 2, 0, 9, 5);
        x = with("b=0:1;:0");
        x.row(0, 0);
        x.row(99L * 10000 + 100, 0);
        mendDue(x, 1, 0, 1, 0, 2, 2);
        x = with("b<a:1;:0");
        x.row(1, 0);
        x.row(101, 0);
        mendDue(x, 1, 0, 1, NONE, NONE, NONE);
        for (int i = 3; i < 20; i++) {
            due("mend " + i, x.mend(1, 0, 1, 0), NONE);
        }
        due("mend 20", x.mend(1, 0, 1, 0), STATE);
        due("OUTSIDE is ahead", x.mend(1, 0, 1, 9), OUTSIDE);
        due("count", x.count(6), 20);
    }

    private static void refused() {
        AlikeUnlike x = new AlikeUnlike();
        x.row(20102, 1);
        due("row -1", x.refused(-1, 1), UNKNOWN);
        due("row 1", x.refused(1, 1), UNKNOWN);
        due("what 1", x.refused(0, 1), OUTSIDE);
        due("what 9", x.refused(0, 9), OUTSIDE);
        due("what 18", x.refused(0, 18), OUTSIDE);
        due("what -1", x.refused(0, -1), OUTSIDE);
        due("no program", x.refused(0, 0), STATE);
        put(x, "a+b+c>7:1;:0");
        x.program();
        refusedDue(x, 0, NONE);
        x.field(0, 0, 3);
        refusedDue(x, 0, 3, 5, 1, 2, 0, 0, 0, 0, 0);
        x.field(2, 0, 3);
        // Of like PRICES the least number in a.
        refusedDue(x, 0, 3, 2, 1, 5, 0, 0, 0, 0, 0);
        x.field(2, 3, 2);
        refusedDue(x, 0, 3, 5, 1, 2, 0, 0, 0, 0, 0);
        x.field(0, 2, 4);
        refusedDue(x, 0, 4, 4, 1, 3, 0, 0, 0, 0, 0);
        lay(x, "!c=3");
        refusedDue(x, 0, 5, 3, 1, 4, 0, 0, 0, 0, 0);
        lay(x, "b>1");
        refusedDue(x, 0, NONE);
        x.strike();
        x.field(1, 1, 2);
        refusedDue(x, 0, NONE);
        x.row(99, 0);
        due("missing", x.refused(1, 0), STATE);
        x.row(90900, 0);
        due("let", x.refused(2, 0), STATE);
        x.row(9900000000000000L, 0);
        due("missing, and not read", x.refused(3, 0), STATE);
        // A row outside a MAY's SPAN has to come into it.
        x = with("a<9:1;:0");
        x.field(0, 0, 3);
        x.field(0, 3, 99);
        x.row(20, 0);
        refusedDue(x, 0, 12 * 99, 8, 0, 0, 0, 0, 0, 0, 0);
    }

    private static void sameFor() {
        AlikeUnlike x = with("a+b>7:1;:0");
        x.field(0, 0, 3);
        x.field(0, 3, 5);
        x.field(1, 0, 1);
        x.field(2, 0, 2);
        x.field(1, 1, 1);
        x.row(103, 0);
        x.row(107, 0);
        x.row(99, 0);
        due("row", x.sameFor(4, 1, 1), UNKNOWN);
        due("row", x.sameFor(3, 1, 1), UNKNOWN);
        due("row", x.sameFor(-1, 1, 1), UNKNOWN);
        due("field", x.sameFor(0, 8, 1), UNKNOWN);
        due("it counts", x.sameFor(0, 0, 1), OUTSIDE);
        due("it counts", x.sameFor(0, 3, 1), OUTSIDE);
        due("below its span", x.sameFor(0, 1, 0), OUTSIDE);
        due("above its span", x.sameFor(0, 1, 10), OUTSIDE);
        due("OUTSIDE is ahead", x.sameFor(1, 1, 10), OUTSIDE);
        due("was let", x.sameFor(1, 1, 1), STATE);
        due("missing", x.sameFor(2, 1, 1), STATE);
        due("as it is", x.sameFor(0, 1, 1), 20);
        due("for 3", x.sameFor(0, 1, 3), 10);
        due("for 5", x.sameFor(0, 1, 5), 0);
        due("for 9", x.sameFor(0, 1, 9), 0);
        due("of KIN, not read", x.sameFor(0, 2, 9), 20);
        due("the row stays", x.refused(0, 0), 20);
        x.row(101, 0);
        due("another row", x.sameFor(3, 2, 0), 30);
        due("the first one again", x.sameFor(0, 2, 0), 20);
        lay(x, "a<5");
        due("none of 1", x.sameFor(0, 1, 1), NONE);
        due("for 4", x.sameFor(0, 1, 4), 5);
        lay(x, "!b=4");
        due("nobody has 4", x.sameFor(0, 1, 4), NONE);
        x = new AlikeUnlike();
        x.field(1, 0, 1);
        x.row(0, 0);
        due("no program", x.sameFor(0, 1, 1), STATE);
    }

    private static void count() {
        AlikeUnlike x = with("a<1&12>b*3:0;c=c:1;99<d:0;:1");
        lay(x, "a<7");
        lay(x, "a<8");
        x.row(0, 0);
        x.row(9, 0);
        x.row(1, 0);
        x.letters(word("ab1"));
        x.seek(-1, 1);
        x.seek(0, 1);
        x.mend(0, 0, 9, 0);
        int[] due = {4, 2, 3, 3, 4, 2, 1};
        for (int what = 0; what <= 6; what++) {
            due("count(" + what + ")", x.count(what), due[what]);
        }
        put(x, "7<a:0;:1");
        x.program();
        due("lines of the new one", x.count(0), 2);
        due("numbers of the new one", x.count(4), 1);
        due("its number", x.run(8, 0), 0);
        for (int what : new int[] {-1, 7, MIN, MAX}) {
            due("count(" + what + ")", x.count(what), OUTSIDE);
        }
    }

    private static void digest() {
        long h = 307;
        for (int f = 0; f < 8; f++) {
            h = fold(h, 0, 0, 9, 1);
        }
        AlikeUnlike x = new AlikeUnlike();
        due("new", x.digest(), fold(h, -1, -1, 1, -1, -1, 1, 0, 0, 0, 0, 0, 0, 0));
        x.row(9900000000000003L, -1);
        x.letters(word("z~"));
        due("a row, letters", x.digest(),
                fold(fold(h, 9900000000000003L, -1, -1), -1, -1, 1, -1, -1, 1, 'z', '~', 0, 0, 1, 2, 0, 0, 0));
        put(x, "a<4:1;h=9:0;:1");
        x.program();
        lay(x, "a>0");
        x.letters('q');
        due("a program without spans", x.digest(), fold(fold(h, 9900000000000003L, -1, 1),
                1, 0, 0, 0, 1, 1, NONE, NONE, NONE, NONE, NONE, 0, 'q', 3, 1, 1, 1, 2, 0, 0));
        x.row(5, 1);
        x.field(7, 0, 3);
        x.field(7, 1, 2);
        x.field(7, 3, 44);
        h = 307;
        for (int f = 0; f < 7; f++) {
            h = fold(h, 0, 0, 9, 1);
        }
        h = fold(h, 3, 2, 9, 44);
        // Both rows are let: the gap is nought. Spans of a with 3 and not 5: 4 times 2; with 5 and not 3: 2 times 5.
        h = fold(h, 9900000000000003L, -1, 1, 5, 1, 1, 1, 0, 0, 0, 1, 1);
        h = fold(h, 0, 0, 3, 0, 1, 4 * 2 + 2 * 5, 'q', 3, 1, 2, 1, 2, 0, 0);
        due("a program with spans", x.digest(), h);
    }
}
