import java.math.BigInteger;

/** Promises 26 and 27, and what holds for all calls: a test for each sentence that names a boundary case. */
public final class ToldBoundaryTest extends Dues {
    public static void main(String[] args) throws Exception {
        runAll(ToldBoundaryTest.class);
    }

    // ---- promise 26

    // Promise 26: "OUTSIDE."
    private static void whatOutside() {
        AlikeUnlike x = with(":1");
        for (int what : new int[] {-1, 7, 8, MIN, MAX}) {
            due("what " + what, x.count(what), OUTSIDE);
        }
    }

    // Promise 26: "How many: 0 LINES, 1 LAWS, 2 ROWS, 3 letters of THE PAGE, 4 numbers in THE PROGRAM's CONDITIONS, 5 how often seek(), 6 mend() was done."
    private static void nothingAtFirst() {
        AlikeUnlike x = new AlikeUnlike();
        for (int what = 0; what <= 6; what++) {
            due("what " + what, x.count(what), 0);
        }
    }

    // Promise 26: "How many: 0 LINES, 1 LAWS, 2 ROWS, 3 letters of THE PAGE, 4 numbers in THE PROGRAM's CONDITIONS, 5 how often seek(), 6 mend() was done."
    private static void asManyAsThereCanBe() {
        AlikeUnlike x = with(times("0=a:0;", 13) + ":1");
        for (int i = 0; i < 6; i++) {
            lay(x, "a=a");
        }
        for (int i = 0; i < 24; i++) {
            rows(x, i % 2);
        }
        for (int i = 0; i < 40; i++) {
            x.seek(NONE, 1);
        }
        for (int i = 0; i < 20; i++) {
            x.mend(0, 0, 1, 0);
        }
        put(x, times("a", 80));
        int[] due = {14, 6, 24, 80, 13, 40, 20};
        for (int again = 0; again < 2; again++) {
            for (int what = 0; what <= 6; what++) {
                due("what " + what, x.count(what), due[what]);
            }
            // All are full: nothing of this is done.
            due("law", x.law(), STATE);
            due("row", x.row(0, 0), FULL);
            due("letters", x.letters('a'), FULL);
            due("seek", x.seek(NONE, 1), STATE);
            due("mend", x.mend(0, 0, 1, 0), STATE);
        }
    }

    // Promise 26: "4 numbers in THE PROGRAM's CONDITIONS"
    private static void numbersOfConditions() {
        String[] programs = {":0", "a=b:1;:0", "a=1:1;:0", "12=a:1;:0", "1=2:1;34=56:0;:1", "1*2*3+4-5<66:1;:0", "(1=a|!2=b)&c=c:1;:0"};
        int[] due = {0, 0, 1, 1, 4, 6, 2};
        for (int i = 0; i < programs.length; i++) {
            AlikeUnlike x = with(programs[i]);
            due("numbers of " + programs[i], x.count(4), due[i]);
            lay(x, "1=2");
            due("a LAW has none of them", x.count(4), due[i]);
        }
        due("the most of a full page", with(times("0+", 36) + "0=0:1;:0").count(4), 38);
    }

    // ---- promise 27

    /** What the document tells of a digest, wrapped only at the end. */
    private static long wrapped(long... numbers) {
        BigInteger h = BigInteger.valueOf(307);
        for (long n : numbers) {
            h = h.multiply(BigInteger.valueOf(31)).add(BigInteger.valueOf(n));
        }
        return h.longValue();
    }

    private static long[] joined(long[]... parts) {
        int size = 0;
        for (long[] part : parts) {
            size += part.length;
        }
        long[] all = new long[size];
        int at = 0;
        for (long[] part : parts) {
            System.arraycopy(part, 0, all, at, part.length);
            at += part.length;
        }
        return all;
    }

    /** KIND, least, greatest, PRICE of all FIELDS at first. */
    private static long[] fieldsAtFirst() {
        long[] all = new long[32];
        for (int f = 0; f < 8; f++) {
            all[4 * f + 2] = 9;
            all[4 * f + 3] = 1;
        }
        return all;
    }

    // Promise 27: "(-1 for 0, 1 without a PROGRAM); where() for 0 to 5 (not without a PROGRAM)"
    private static void withoutAProgram() {
        AlikeUnlike x = new AlikeUnlike();
        long[] runs = {-1, -1, 1, -1, -1, 1};
        due("a new object", x.digest(), wrapped(joined(fieldsAtFirst(), runs, new long[] {0, 0, 0, 0, 0, 0, 0})));
        rows(x, 0, 2);
        long[] two = {0, 0, -1, 2, 0, -1};
        due("two ROWS", x.digest(), wrapped(joined(fieldsAtFirst(), two, runs, new long[] {0, 0, 2, 0, 0, 0, 0})));
    }

    // Promise 27: "of each ROW its number of base 100, what was out, its RUN (-1 without a PROGRAM)"; "where() for 0 to 5"
    private static void withAProgram() {
        AlikeUnlike x = with("a=2:1;:0");
        rows(x, 0, 2, 99);
        long[] three = {0, 0, 0, 2, 0, 1, 99, 0, 2};
        // 2 and not 0: 1..2 to 9, and 2 to 9; 0 and not 2: 0..0, 0..1. The first with a GAP of 1 is 0..0.
        long[] due = {0, 1, 1, 0, 1, 1, 0, 0, 0, 1, 1, 2 * 8 + 2};
        due("three ROWS", x.digest(), wrapped(joined(fieldsAtFirst(), three, due, new long[] {2, 0, 3, 0, 1, 0, 0})));
    }

    // Promise 27: "of the PERSON with 0 in each FIELD and that with the greatest of each SPAN what run() tells for 0, 1, 2"
    private static void leastAndGreatestPerson() {
        AlikeUnlike x = with("a=0:1;h=20:1;:0");
        x.field(0, LEAST, 1);
        x.field(7, GREATEST, 20);
        long[] fields = fieldsAtFirst();
        fields[1] = 1;
        fields[30] = 20;
        // 0 in a is below its SPAN; but its RUN is told all the same.
        long[] due = {1, 0, 0, 1, 1, 1, -1, -1, -1, -1, -1, 0};
        due("0 is not the least", x.digest(), wrapped(joined(fields, due, new long[] {3, 0, 0, 0, 2, 0, 0})));
    }

    // Promise 27: "h is 307, then for each of these numbers, in order, 31 times h, and it (as longs, wrapping)"
    private static void fullAndWrapping() {
        AlikeUnlike x = new AlikeUnlike();
        long[] fields = fieldsAtFirst();
        long[] all = new long[3 * 24];
        for (int i = 0; i < 24; i++) {
            x.row(9999999999999999L, i % 3 - 1);
            all[3 * i] = 9999999999999999L;
            all[3 * i + 1] = i % 3 - 1;
            all[3 * i + 2] = -1;
        }
        put(x, times("~", 80));
        long[] letters = new long[80];
        java.util.Arrays.fill(letters, 126);
        due("24 ROWS and 80 letters", x.digest(),
                wrapped(joined(fields, all, new long[] {-1, -1, 1, -1, -1, 1}, letters, new long[] {0, 0, 24, 80, 0, 0, 0})));
    }

    // Promise 27: "of each FIELD KIND, least, greatest, PRICE"
    private static void eachOfEachField() {
        AlikeUnlike x = new AlikeUnlike();
        long[] fields = fieldsAtFirst();
        for (int f = 5; f < 8; f++) {
            x.field(f, KIND, MAY);
            x.field(f, PRICE, 99 - f);
            x.field(f, GREATEST, 12 + f);
            x.field(f, LEAST, f);
            fields[4 * f] = MAY;
            fields[4 * f + 1] = f;
            fields[4 * f + 2] = 12 + f;
            fields[4 * f + 3] = 99 - f;
        }
        due("h, g, f", x.digest(), wrapped(joined(fields, new long[] {-1, -1, 0, -1, -1, 1, 0, 0, 0, 0, 0, 0, 0})));
    }

    // Promise 27: "letters of THE PAGE; what count() tells for 0 to 6"
    private static void digestTellsAlone() {
        AlikeUnlike x = with("a>4:1;:0");
        x.field(0, KIND, MAY);
        x.field(1, KIND, BARRED);
        rows(x, 3, 9);
        x.letters(word("a<"));
        due("seek", x.seek(NONE, 2), SPENT);
        int looked = x.sought(0);
        long first = x.digest();
        due("again", x.digest(), first);
        due("sought", x.sought(0), looked);
        due("refused", x.refused(0, 10), 5);
        due("sameFor", x.sameFor(0, 1, 1), 2);
        due("again", x.digest(), first);
        due("letters", x.count(3), 2);
        due("seek is not done by it", x.count(5), 1);
    }

    // ---- all calls

    /** All that an object tells, but by what counts as done. */
    private static long told(AlikeUnlike x) {
        long h = x.digest();
        for (int what = 0; what <= 2; what++) {
            h = fold(h, x.sought(what), x.pair(what), x.run(808080808080808L, what));
        }
        for (int row = 0; row < x.count(2); row++) {
            for (int what = 10; what <= 17; what++) {
                h = fold(h, x.end(row), x.refused(row, what), x.sameFor(row, 1, 5));
            }
        }
        for (int sort = 0; sort <= 1; sort++) {
            h = fold(h, x.fault(sort), x.ends(0, 909090909090909L));
        }
        return fold(h, x.gap(1, 0, 3, 0), x.odds(1, 0, 3, 1), x.as(1, BARRED), x.asks(0, 1));
    }

    // Promises 2 to 26: "Refusals, of several the first as told by each call: UNKNOWN (a number names nothing), OUTSIDE (it is not as told), STATE (as told), FULL; they change nothing."
    private static void refusalsChangeNothing() {
        AlikeUnlike x = with("a+b>7:1;:0");
        for (int f : new int[] {0, 2, 3}) {
            x.field(f, KIND, MAY);
            x.field(f, PRICE, 3);
        }
        x.field(1, KIND, BARRED);
        rows(x, 303, 8, 99);
        lay(x, "a<9");
        due("a PAIR", x.seek(NONE, 2000), 0);
        due("mend", x.mend(1, 0, 3, 0), 0);
        put(x, "a<");
        long before = told(x);
        long[] refusals = {x.field(8, 0, 0), x.field(0, 4, 0), x.field(0, 0, 5), x.field(0, 1, 10), x.field(0, 2, -1), x.field(0, 3, 100),
            x.field(4, 0, MAY), x.field(4, 3, 2), x.as(8, 0), x.as(0, 5), x.asks(8, 0), x.asks(0, 2), x.letters(127), x.letters(0x6100),
            x.fault(2), x.program(), x.law(), x.run(-1, 0), x.run(21, 2), x.run(1, 3), x.seek(8, 1), x.seek(0, 0), x.seek(0, 2001),
            x.sought(3), x.pair(2), x.ends(-1, 0), x.ends(0, 99), x.ends(5, 4), x.row(21, 0), x.row(0, 2), x.end(3), x.group(8, 0, 0),
            x.group(0, 21, 0), x.group(0, 0, 4), x.gap(8, 0, 1, 0), x.gap(1, 0, 0, 0), x.gap(1, 0, 4, 0), x.odds(8, 0, 1, 0),
            x.odds(1, 0, 0, 0), x.odds(1, 0, 4, 0), x.where(6), x.askings(8, 0, 0, 0, 0, 0), x.askings(0, 10, 0, 0, 0, 0),
            x.mend(8, 0, 1, 0), x.mend(1, 0, 3, 3), x.mend(1, 0, 4, 0), x.refused(3, 0), x.refused(0, 9), x.refused(1, 0),
            x.refused(2, 0), x.sameFor(3, 1, 0), x.sameFor(0, 8, 0), x.sameFor(0, 0, 0), x.sameFor(0, 1, 10), x.sameFor(1, 1, 0), x.count(7)};
        for (int i = 0; i < refusals.length; i++) {
            due("refusal " + i + " is one", refusals[i] <= -101 || i == 24 ? 1 : 0, 1);
        }
        due("pair outside", refusals[24], -2);
        due("all that is told", told(x), before);
        due("letters", x.letters(word("1")), 3);
        due("law", x.law(), 1);
    }

    // Promises 5, 9, 16: "FULL; they change nothing"
    private static void fullChangesNothing() {
        AlikeUnlike x = with("a+b>7:1;:0");
        x.field(1, KIND, BARRED);
        due("a PAIR", x.seek(NONE, 2000), 0);
        for (int i = 0; i < 6; i++) {
            lay(x, "a<9");
        }
        for (int i = 0; i < 24; i++) {
            rows(x, i % 4 * 100);
        }
        put(x, times("a=a&", 19) + "a=a");
        due("letters", x.count(3), 79);
        long before = told(x);
        due("letters", x.letters(word("aa")), FULL);
        due("law", x.law(), FULL);
        due("row", x.row(8, 1), FULL);
        due("all that is told", told(x), before);
    }

    // Promises 8, 10, 11, 12, 15, 17 to 25: "STATE (as told), FULL; they change nothing"
    private static void stateChangesNothing() {
        AlikeUnlike x = new AlikeUnlike();
        rows(x, 0, 101);
        x.field(1, KIND, BARRED);
        long before = x.digest();
        long[] refusals = {x.strike(), x.program(), x.law(), x.run(0, 0), x.run(0, 1), x.seek(NONE, 1), x.seek(0, 1), x.sought(0), x.ends(0, 0),
            x.end(0), x.group(0, 0, 0), x.gap(0, 0, 1, 0), x.odds(0, 0, 1, 0), x.where(0), x.mend(0, 0, 1, 0), x.refused(0, 0),
            x.sameFor(0, 1, 0)};
        for (int i = 0; i < refusals.length; i++) {
            due("refusal " + i, refusals[i], STATE);
        }
        due("digest", x.digest(), before);
        due("searches", x.count(5), 0);
        due("mends", x.count(6), 0);
        pairDue(x, -1, -1);
    }

    // Promises 1 to 27: "An object is used for at most 512 calls after it has been made"
    private static void fiveHundredAndTwelveCalls() {
        AlikeUnlike x = new AlikeUnlike();
        int calls = 0;
        for (int f = 0; f < 3; f++, calls += 2) {
            x.field(f, KIND, MAY);
            x.field(f, GREATEST, 20);
        }
        for (String part : new String[] {"a+b+c>59", ":1;:0"}) {
            x.letters(word(part));
            calls++;
        }
        due("program", x.program(), 2);
        for (int i = 1; i <= 24; i++) {
            due("row", x.row(i % 2, 0), i);
        }
        calls += 1 + 24;
        for (int i = 1; i <= 40; i++, calls++) {
            due("seek " + i, x.seek(NONE, 2000), SPENT);
        }
        for (int i = 1; i <= 20; i++, calls++) {
            due("mend " + i, x.mend(0, 0, 1, 2), 0);
        }
        for (; calls < 509; calls += 2) {
            due("refused", x.refused(0, 0), 59);
            due("refused", x.refused(1, 12), 20);
        }
        due("so many were done", calls, 509);
        // 0 alone, and 1 to 1..20.
        due("where", x.where(5), 21);
        due("seek was done", x.count(5), 40);
        due("the last of 512", x.run(202020L, 0), 1);
    }
}
