/** Promises 16 to 23: a test for each sentence that names a boundary case. */
public final class CameBoundaryTest extends Dues {
    private static final int GOOD = 1, BAD = 0, NOT_KNOWN = -1;

    public static void main(String[] args) throws Exception {
        runAll(CameBoundaryTest.class);
    }

    /** By b: of group 0 one of two is let, of group 1 both, of group 2 none of one; one is MISSING there. */
    private static AlikeUnlike withGroups() {
        AlikeUnlike x = with("a>4:1;:0");
        rows(x, 0, 9, 105, 106, 204, 9909);
        return x;
    }

    /** Two ROWS, in groups 0 and 1 of h, with those numbers in a. */
    private static AlikeUnlike withTwo(String program, int first, int second) {
        AlikeUnlike x = with(program);
        rows(x, first, second + unit(7));
        return x;
    }

    // ---- promise 16

    // Promise 16: "A ROW: how many."
    private static void howManyRows() {
        AlikeUnlike x = new AlikeUnlike();
        for (int i = 1; i <= 24; i++) {
            due("row", x.row(i % 21, i % 3 - 1), i);
            due("ROWS", x.count(2), i);
        }
    }

    // Promise 16: "ROWS (24 at most)"; "FULL."
    private static void twentyFourAtMost() {
        AlikeUnlike x = with("a=7:1;:0");
        for (int i = 1; i <= 24; i++) {
            due("row", x.row(i == 24 ? 7 : 8, GOOD), i);
        }
        long before = x.digest();
        due("a 25th", x.row(7, GOOD), FULL);
        due("another", x.row(9999999999999999L, NOT_KNOWN), FULL);
        due("nothing changed", x.digest(), before);
        due("ROWS", x.count(2), 24);
        due("the 24th", x.end(23), 1);
        due("a 25th", x.end(24), UNKNOWN);
        due("LET", x.group(0, 7, 0), 1);
    }

    // Promise 16: "OUTSIDE: person, out"
    private static void personsOfRows() {
        AlikeUnlike x = new AlikeUnlike();
        for (long person : new long[] {-1, 21, 98, 2100, 9800000000000000L, 10000000000000000L, Long.MAX_VALUE, Long.MIN_VALUE, 1L << 32}) {
            due("person " + person, x.row(person, GOOD), OUTSIDE);
        }
        due("ROWS", x.count(2), 0);
        due("the least", x.row(0, GOOD), 1);
        due("the greatest", x.row(9999999999999999L, GOOD), 2);
        due("20 in each", x.row(2020202020202020L, GOOD), 3);
    }

    // Promise 16: "TURNED OUT good (1), bad (0), or not known (-1)"; "OUTSIDE: person, out"
    private static void goodBadOrNotKnown() {
        AlikeUnlike x = with(":1");
        for (int out : new int[] {-2, 2, MIN, MAX}) {
            due("out " + out, x.row(0, out), OUTSIDE);
        }
        due("not known", x.row(0, NOT_KNOWN), 1);
        due("bad", x.row(0, BAD), 2);
        due("good", x.row(0, GOOD), 3);
        due("good ones", x.group(0, 0, 2), 1);
        due("good ones LET", x.group(0, 0, 3), 1);
    }

    // Promise 16: "Refusals, of several the first as told by each call"
    private static void outsideAheadOfFull() {
        AlikeUnlike x = new AlikeUnlike();
        for (int i = 0; i < 24; i++) {
            rows(x, 0);
        }
        due("FULL", x.row(0, GOOD), FULL);
        due("person", x.row(21, GOOD), OUTSIDE);
        due("out", x.row(0, 2), OUTSIDE);
    }

    // Promise 16: "A ROW: how many."
    private static void rowsBeyondTheSpans() {
        AlikeUnlike x = new AlikeUnlike();
        narrow(x);
        lay(x, "a<0");
        due("nobody who COULD COME", x.row(20, GOOD), 1);
    }

    // ---- promise 17

    // Promise 17: "RUN of a ROW; UNKNOWN"
    private static void firstAndLastRow() {
        AlikeUnlike x = with("a=1:1;:0");
        due("no ROW", x.end(0), UNKNOWN);
        rows(x, 1, 0, 99);
        due("let", x.end(0), 1);
        due("refused", x.end(1), 0);
        due("the host refuses", x.end(2), 2);
        for (int row : new int[] {-1, 3, 24, MIN, MAX}) {
            due("row " + row, x.end(row), UNKNOWN);
        }
    }

    // Promise 17: "STATE: there is no PROGRAM."
    private static void endWithoutAProgram() {
        AlikeUnlike x = new AlikeUnlike();
        rows(x, 0);
        due("no PROGRAM", x.end(0), STATE);
        due("UNKNOWN is ahead", x.end(1), UNKNOWN);
        due("UNKNOWN is ahead", x.end(-1), UNKNOWN);
        tell(x, ":1");
        due("a PROGRAM behind the ROW", x.end(0), 1);
        tell(x, "a=0:0;:1");
        due("another one", x.end(0), 0);
    }

    // ---- promise 18

    // Promise 18: "Of the group with number v (0 to 20) in a FIELD"
    private static void noughtToTwenty() {
        AlikeUnlike x = with(":1");
        rows(x, 0, 20, 20, 99);
        due("0", x.group(0, 0, 0), 1);
        due("20", x.group(0, 20, 0), 2);
        due("a group of nobody", x.group(0, 19, 0), 0);
        due("a group of nobody", x.group(0, 19, 1), 0);
        for (int v : new int[] {-1, 21, 99, MIN, MAX}) {
            due("v " + v, x.group(0, v, 0), OUTSIDE);
        }
    }

    // Promise 18: "what = 0 how many, 1 LET, 2 good, 3 good and LET"
    private static void whatOfAGroup() {
        AlikeUnlike x = with("a=1:1;:0");
        // Of each sort of PERSON one not known, two bad and three good, but one good one alone is LET.
        int[] outs = {NOT_KNOWN, BAD, BAD, GOOD, GOOD, GOOD};
        for (int i = 0; i < 6; i++) {
            due("LET", x.row(i < 4 ? 1 : 101, outs[i]) > 0 ? 1 : 0, 1);
            due("refused", x.row(0, outs[i]) > 0 ? 1 : 0, 1);
            due("the host refuses", x.row(99, outs[i]) > 0 ? 1 : 0, 1);
        }
        int[] due = {16, 4, 7, 1};
        for (int what = 0; what <= 3; what++) {
            due("what " + what, x.group(1, 0, what), due[what]);
        }
        for (int what : new int[] {-1, 4, MIN, MAX}) {
            due("what " + what, x.group(1, 0, what), OUTSIDE);
        }
    }

    // Promises 18, 19, 20, 23: "LET: those whose RUN is 1."
    private static void hostsRefusalIsNotLet() {
        AlikeUnlike x = with("a=1:1;:0");
        rows(x, 99, 101);
        due("LET", x.group(1, 0, 1), 0);
        shareDue("gap", x.gap(1, 0, 1, 0), x.gap(1, 0, 1, 1), 1, 1);
        due("mend", x.mend(1, 0, 1, 2), 1);
    }

    // Promises 18, 19: "Groups by a FIELD: ROWS with told numbers in it."
    private static void missingIsInNoGroup() {
        AlikeUnlike x = with(":1");
        rows(x, 99, 9999999999999999L, 0);
        due("group 0", x.group(0, 0, 0), 1);
        due("no group of those", x.group(0, -1, 0), OUTSIDE);
        due("no group of those", x.group(0, 99, 0), OUTSIDE);
        due("no gap to those", x.gap(0, -1, 0, 0), OUTSIDE);
        due("no gap to those", x.gap(0, 0, -1, 0), OUTSIDE);
        due("no odds of those", x.odds(0, -1, 0, 0), OUTSIDE);
        due("no odds of those", x.odds(0, 0, -1, 0), OUTSIDE);
        due("no mend for those", x.mend(0, -1, 0, 0), OUTSIDE);
        due("no mend for those", x.mend(0, 0, -1, 0), OUTSIDE);
    }

    // Promise 18: "UNKNOWN: field; OUTSIDE; STATE: there is no PROGRAM."
    private static void refusalsOfGroup() {
        AlikeUnlike x = new AlikeUnlike();
        rows(x, 0);
        for (int what = 0; what <= 3; what++) {
            due("no PROGRAM", x.group(0, 0, what), STATE);
        }
        due("OUTSIDE is ahead", x.group(0, 21, 0), OUTSIDE);
        due("OUTSIDE is ahead", x.group(0, 0, 4), OUTSIDE);
        due("UNKNOWN is ahead", x.group(8, 0, 0), UNKNOWN);
        due("UNKNOWN is ahead", x.group(-1, 21, 4), UNKNOWN);
    }

    // ---- promise 19

    // Promise 19: "GAP of the groups with v and w (not the same) in a FIELD, in lowest terms: part 0 above, 1 below."
    private static void gapsInLowestTerms() {
        AlikeUnlike x = withGroups();
        shareDue("1/2 and 1", x.gap(1, 0, 1, 0), x.gap(1, 0, 1, 1), 1, 2);
        shareDue("1 and 1/2", x.gap(1, 1, 0, 0), x.gap(1, 1, 0, 1), 1, 2);
        shareDue("1/2 and 0", x.gap(1, 0, 2, 0), x.gap(1, 0, 2, 1), 1, 2);
        shareDue("1 and 0", x.gap(1, 1, 2, 0), x.gap(1, 1, 2, 1), 1, 1);
        tell(x, ":1");
        shareDue("1 and 1", x.gap(1, 0, 1, 0), x.gap(1, 0, 1, 1), 0, 1);
        tell(x, ":0");
        shareDue("0 and 0", x.gap(1, 0, 1, 0), x.gap(1, 0, 1, 1), 0, 1);
        x = with("a=1:1;:0");
        rows(x, 0, 0, 0, 1, 100, 100, 100, 100, 101, 101);
        // 1/4 and 2/6: 2 of 24.
        shareDue("1/4 and 1/3", x.gap(1, 0, 1, 0), x.gap(1, 0, 1, 1), 1, 12);
    }

    // Promise 19: "GAP of the groups with v and w (not the same)"
    private static void notTheSame() {
        AlikeUnlike x = withGroups();
        due("a group and itself", x.gap(1, 0, 0, 0), OUTSIDE);
        due("a group of nobody and itself", x.gap(1, 20, 20, 0), OUTSIDE);
    }

    // Promise 19: "UNKNOWN: field; OUTSIDE"
    private static void gapOutside() {
        AlikeUnlike x = withGroups();
        for (int wrong : new int[] {-1, 21, MIN, MAX}) {
            due("v " + wrong, x.gap(1, wrong, 0, 0), OUTSIDE);
            due("w " + wrong, x.gap(1, 0, wrong, 0), OUTSIDE);
        }
        for (int wrong : new int[] {-1, 2, MIN, MAX}) {
            due("part " + wrong, x.gap(1, 0, 1, wrong), OUTSIDE);
        }
    }

    // Promise 19: "or one of them has no ROW"
    private static void aGroupWithoutARow() {
        AlikeUnlike x = withGroups();
        due("w", x.gap(1, 0, 20, 0), STATE);
        due("v", x.gap(1, 20, 0, 0), STATE);
        due("both", x.gap(1, 19, 20, 1), STATE);
        rows(x, 2000);
        due("w", x.gap(1, 0, 20, 0), 1);
        due("no ROW at all", with(":1").gap(0, 0, 1, 0), STATE);
    }

    // Promise 19: "STATE: there is no PROGRAM"; "Refusals, of several the first as told by each call"
    private static void refusalsOfGap() {
        AlikeUnlike x = new AlikeUnlike();
        rows(x, 0, 101);
        due("no PROGRAM", x.gap(0, 0, 1, 0), STATE);
        due("OUTSIDE is ahead", x.gap(0, 0, 0, 0), OUTSIDE);
        due("OUTSIDE is ahead", x.gap(0, 0, 1, 2), OUTSIDE);
        due("OUTSIDE is ahead", x.gap(0, 0, 21, 0), OUTSIDE);
        due("UNKNOWN is ahead", x.gap(8, 0, 1, 0), UNKNOWN);
        due("UNKNOWN is ahead", x.gap(-1, 21, 21, 2), UNKNOWN);
    }

    // ---- promise 20

    // Promise 20: "of all ways to deal as many marks among both groups as were LET together the share of those with a GAP as great at least"
    private static void asGreatAtLeast() {
        AlikeUnlike x = with("a=1:1;:0");
        rows(x, 1, 1, 100, 100);
        // Two marks among two and two: 6 ways, 2 with a GAP of 1, 4 with none.
        shareDue("both of one", x.odds(1, 0, 1, 0), x.odds(1, 0, 1, 1), 1, 3);
        x = with("a=1:1;:0");
        rows(x, 1, 100, 100, 100);
        // One mark among one and three: 1 way with a GAP of 1, 3 with 1/3.
        shareDue("the one", x.odds(1, 0, 1, 0), x.odds(1, 0, 1, 1), 1, 4);
        shareDue("the other way about", x.odds(1, 1, 0, 0), x.odds(1, 1, 0, 1), 1, 4);
        x = with("a=1:1;:0");
        rows(x, 0, 101, 100, 100);
        // The GAP is 1/3: all are as great at least.
        shareDue("one of three", x.odds(1, 0, 1, 0), x.odds(1, 0, 1, 1), 1, 1);
    }

    // Promise 20: "as many marks among both groups as were LET together"
    private static void noMarksAndAllMarks() {
        AlikeUnlike x = with("a=1:1;:0");
        rows(x, 0, 0, 100);
        shareDue("none LET", x.odds(1, 0, 1, 0), x.odds(1, 0, 1, 1), 1, 1);
        tell(x, ":1");
        shareDue("all LET", x.odds(1, 0, 1, 0), x.odds(1, 0, 1, 1), 1, 1);
        rows(x, 201, 201);
        tell(x, "b=0:1;:0");
        // ROWS of other groups do not matter: two marks among two and one.
        shareDue("two of three", x.odds(1, 0, 1, 0), x.odds(1, 0, 1, 1), 1, 3);
    }

    // Promise 20: "of all ways to deal"
    private static void mostWays() {
        AlikeUnlike x = with("b=0:1;:0");
        for (int i = 0; i < 12; i++) {
            rows(x, 0, 100);
        }
        // 2 of 2704156.
        shareDue("12 and 12", x.odds(1, 0, 1, 0), x.odds(1, 0, 1, 1), 1, 1352078);
        x = with("b=0:1;:0");
        rows(x, 0);
        for (int i = 0; i < 23; i++) {
            rows(x, 100);
        }
        shareDue("1 and 23", x.odds(1, 0, 1, 0), x.odds(1, 0, 1, 1), 1, 24);
        tell(x, "b=1:1;:0");
        shareDue("23 and 1", x.odds(1, 1, 0, 0), x.odds(1, 1, 0, 1), 1, 24);
    }

    // Promise 20: "ODDS of that, in lowest terms."
    private static void oddsInLowestTerms() {
        AlikeUnlike x = with("a=1:1;:0");
        rows(x, 1, 1, 0, 101, 100, 100);
        // Three marks among three and three, 20 ways: GAPS of 1 (2 ways) and 1/3 (18 ways).
        shareDue("2/3 and 1/3", x.odds(1, 0, 1, 0), x.odds(1, 0, 1, 1), 1, 1);
        x = with("a=1:1;:0");
        rows(x, 1, 1, 1, 101, 100, 100, 100);
        // Four marks among three and four, 35 ways: 3 and 1 (4 ways, 3/4), 2 and 2 (18, 1/6), 1 and 3 (12, 5/12), 0 and 4 (1, 1).
        shareDue("1 and 1/4", x.odds(1, 0, 1, 0), x.odds(1, 0, 1, 1), 1, 7);
    }

    // Promise 20: "UNKNOWN, OUTSIDE, STATE, as gap()."
    private static void refusalsOfOdds() {
        AlikeUnlike x = withGroups();
        for (int wrong : new int[] {-1, 21, MIN, MAX}) {
            due("v " + wrong, x.odds(1, wrong, 0, 0), OUTSIDE);
            due("w " + wrong, x.odds(1, 0, wrong, 0), OUTSIDE);
        }
        for (int wrong : new int[] {-1, 2, MIN, MAX}) {
            due("part " + wrong, x.odds(1, 0, 1, wrong), OUTSIDE);
        }
        due("the same", x.odds(1, 1, 1, 0), OUTSIDE);
        due("w has no ROW", x.odds(1, 0, 20, 0), STATE);
        due("v has no ROW", x.odds(1, 20, 0, 0), STATE);
        due("UNKNOWN is ahead", x.odds(8, 0, 0, 2), UNKNOWN);
        due("OUTSIDE is ahead", x.odds(1, 20, 0, 2), OUTSIDE);
        AlikeUnlike none = new AlikeUnlike();
        rows(none, 0, 1);
        due("no PROGRAM", none.odds(0, 0, 1, 0), STATE);
        due("OUTSIDE is ahead", none.odds(0, 0, 0, 0), OUTSIDE);
    }

    // ---- promise 21

    // Promise 21: "what = 0 the FIELD (NONE: there is no such span)"
    private static void noSuchSpan() {
        AlikeUnlike x = with("a=0:1;:0");
        whereDue(x, NONE, NONE, NONE, NONE, NONE, 0);
        rows(x, 1);
        // One ROW: nobody is out.
        whereDue(x, NONE, NONE, NONE, NONE, NONE, 0);
        rows(x, 1, 1);
        // All have the same numbers.
        whereDue(x, NONE, NONE, NONE, NONE, NONE, 0);
        rows(x, 2);
        // Spans of 0 to 9 with 1, not 2: two; with 2, not 1: eight.
        whereDue(x, 0, 0, 1, 0, 1, 10);
    }

    // Promise 21: "of all FIELDS that COUNT"
    private static void fieldsThatCount() {
        for (int kind = 0; kind <= 4; kind++) {
            AlikeUnlike x = with("a=0:1;:0");
            rows(x, 0, 1);
            narrow(x, 0, 1);
            x.field(0, KIND, kind);
            if (kind == BARRED || kind == KIN) {
                whereDue(x, NONE, NONE, NONE, NONE, NONE, 0);
            } else {
                whereDue(x, 0, 0, 0, 1, 1, 2);
            }
        }
    }

    // Promise 21: "with some ROW in it and some ROW (not MISSING there) out of it"
    private static void someInAndSomeOut() {
        AlikeUnlike x = with("a=0:1;:0");
        narrow(x, 0, 2);
        rows(x, 0, 99);
        // Who is MISSING there is neither in nor out.
        whereDue(x, NONE, NONE, NONE, NONE, NONE, 0);
        rows(x, 2);
        // 0, 0..1, 1..2, 2: not 0..2, for nobody is out; nor 1, for nobody is in.
        whereDue(x, 0, 0, 0, 1, 1, 4);
    }

    // Promise 21: "all spans within its SPAN (from least to greatest)"
    private static void spansWithinItsSpan() {
        AlikeUnlike x = with("a=3:1;:0");
        narrow(x, 0, 4);
        x.field(0, LEAST, 2);
        rows(x, 1, 3, 5);
        // 1 and 5 are out of each span: 2..3, 2..4, 3, 3..4.
        whereDue(x, 0, 2, 3, 1, 1, 4);
        x.field(0, LEAST, 0);
        x.field(0, GREATEST, 2);
        // 1 alone is in: 0..1, 0..2, 1, 1..2; of the others one of two is LET.
        whereDue(x, 0, 0, 1, 1, 2, 4);
        x.field(0, LEAST, 2);
        // Nobody is in.
        whereDue(x, NONE, NONE, NONE, NONE, NONE, 0);
        x.field(0, GREATEST, 20);
        x.field(0, LEAST, 20);
        rows(x, 20);
        // 20 alone is in, and refused; one of three others is LET.
        whereDue(x, 0, 20, 20, 1, 3, 1);
    }

    // Promise 21: "PAID: how many spans that were."
    private static void spansOfAWholeField() {
        AlikeUnlike x = with("a=0:1;:0");
        narrow(x, 0, 20);
        rows(x, 0, 20);
        // From 0 to 0..19, and from 1..20 to 20.
        whereDue(x, 0, 0, 0, 1, 1, 40);
        narrow(x);
        x.field(7, GREATEST, 20);
        rows(x, 20 * unit(7));
        due("by h alone, but 20 in a", x.where(5), 40 + 1);
    }

    // Promise 21: "the one with the greatest GAP between in and out"; "1 least, 2 greatest number, 3 GAP above, 4 below in lowest terms, 5 PAID"
    private static void theGreatestGap() {
        AlikeUnlike x = with("a=1:1;:0");
        narrow(x, 0, 2);
        rows(x, 0, 1, 2);
        // 0 and 2 have a GAP of 1/2 to the others, as have 0..1 and 1..2.
        whereDue(x, 0, 1, 1, 1, 1, 5);
        tell(x, ":1");
        whereDue(x, 0, 0, 0, 0, 1, 5);
        x = with("b=0:1;:0");
        narrow(x, 0, 1);
        x.field(1, KIND, BARRED);
        rows(x, 0, 100, 101, 101);
        // 1/2 of 0, none of 1: 2 of 4 in lowest terms.
        whereDue(x, 0, 0, 0, 1, 2, 2);
    }

    // Promise 21: "of like ones of least FIELD, then least, then greatest number"
    private static void ofLikeSpans() {
        AlikeUnlike x = with("a=0:1;:0");
        narrow(x, 0, 2, 3, 2, 7, 2);
        rows(x, 0, 2 + 2 * unit(3) + 2 * unit(7));
        // Each of three FIELDS has 0, 0..1, 1..2, 2, all with a GAP of 1.
        whereDue(x, 0, 0, 0, 1, 1, 12);
        x.field(0, KIND, KIN);
        whereDue(x, 3, 0, 0, 1, 1, 8);
        x.field(3, KIND, BARRED);
        whereDue(x, 7, 0, 0, 1, 1, 4);
        x.field(7, LEAST, 1);
        whereDue(x, 7, 1, 2, 1, 1, 2);
    }

    // Promise 21: "LET: those whose RUN is 1."
    private static void whoIsLetInASpan() {
        AlikeUnlike x = with("b=0:1;:0");
        narrow(x, 0, 1);
        rows(x, 9900, 1);
        // The first one's RUN is 2.
        whereDue(x, 0, 0, 0, 1, 1, 2);
    }

    // Promise 21: "OUTSIDE; STATE: there is no PROGRAM."
    private static void refusalsOfWhere() {
        AlikeUnlike x = new AlikeUnlike();
        rows(x, 0, 1);
        for (int what = 0; what <= 5; what++) {
            due("no PROGRAM", x.where(what), STATE);
        }
        for (int what : new int[] {-1, 6, MIN, MAX}) {
            due("OUTSIDE is ahead", x.where(what), OUTSIDE);
        }
        tell(x, ":1");
        for (int what : new int[] {-1, 6, MIN, MAX}) {
            due("what " + what, x.where(what), OUTSIDE);
        }
    }

    // ---- promise 22

    // Promise 22: "ASKINGS for two groups of g and h good, b and c bad ones (0 to 9 each)"
    private static void noughtToNine() {
        AlikeUnlike x = new AlikeUnlike();
        for (int wrong : new int[] {-1, 10, MIN, MAX}) {
            due("g " + wrong, x.askings(0, wrong, 1, 1, 1, 0), OUTSIDE);
            due("b " + wrong, x.askings(0, 1, wrong, 1, 1, 0), OUTSIDE);
            due("h " + wrong, x.askings(0, 1, 1, wrong, 1, 0), OUTSIDE);
            due("c " + wrong, x.askings(0, 1, 1, 1, wrong, 0), OUTSIDE);
        }
        askingsDue(x, 7, 9, 9, 9, 9, 1, 36, 0);
        askingsDue(x, 0, 9, 0, 0, 9, 1, 18, 0);
        askingsDue(x, 0, 0, 9, 9, 0, 1, 18, 0);
    }

    // Promise 22: "ASKINGS of a set (0 to 7)"
    private static void noughtToSeven() {
        AlikeUnlike x = new AlikeUnlike();
        for (int wrong : new int[] {-1, 8, MIN, MAX}) {
            due("set " + wrong, x.askings(wrong, 1, 1, 1, 1, 0), OUTSIDE);
        }
        for (int set = 0; set <= 7; set++) {
            askingsDue(x, set, 2, 1, 2, 1, 1, 6, 0);
        }
    }

    // Promise 22: "OUTSIDE: a number (0 to 9), set, what."
    private static void whatOfAskings() {
        AlikeUnlike x = new AlikeUnlike();
        for (int wrong : new int[] {-1, 3, MIN, MAX}) {
            due("what " + wrong, x.askings(0, 1, 1, 1, 1, wrong), OUTSIDE);
        }
        due("without a PROGRAM", x.askings(0, 1, 1, 1, 1, 2), 0);
    }

    // Promise 22: "(somebody LET in each group)"
    private static void somebodyInEachGroup() {
        AlikeUnlike x = new AlikeUnlike();
        for (int set = 0; set <= 7; set++) {
            askingsDue(x, set, 0, 0, 0, 0, 0, NONE, NONE);
            askingsDue(x, set, 0, 0, 9, 9, 0, NONE, NONE);
            askingsDue(x, set, 9, 9, 0, 0, 0, NONE, NONE);
        }
        askingsDue(x, 0, 1, 0, 0, 1, 1, 2, 0);
        askingsDue(x, 0, 0, 1, 1, 0, 1, 2, 0);
    }

    // Promise 22: "(shares by nothing are no share: then it does not hold)"
    private static void sharesByNothing() {
        AlikeUnlike x = new AlikeUnlike();
        // Nobody good in one group, or in both: asking 1 has no share there.
        askingsDue(x, 2, 0, 3, 2, 1, 0, NONE, 1);
        askingsDue(x, 2, 2, 1, 0, 3, 0, NONE, 1);
        askingsDue(x, 2, 0, 3, 0, 3, 0, NONE, 1);
        // Asking 2 is by those LET: nobody good among them is a share of 0.
        askingsDue(x, 4, 0, 3, 0, 3, 1, 6, 0);
        askingsDue(x, 5, 0, 3, 0, 3, 1, 6, 0);
        askingsDue(x, 7, 0, 3, 0, 3, 0, NONE, 1);
        askingsDue(x, 1, 0, 3, 0, 3, 1, 6, 0);
    }

    // Promise 22: "0 the same share of all is LET; 1 of the good; 2 of those LET the same share is good"; "what = 0 TOGETHER (1, 0), 1 MOST (NONE), 2 GIVEN UP, how many."
    private static void eachAsking() {
        AlikeUnlike x = new AlikeUnlike();
        // One good and one bad, one good and two bad: all LET is the same share of all, and of the good.
        askingsDue(x, 1, 1, 1, 1, 2, 1, 5, 0);
        askingsDue(x, 2, 1, 1, 1, 2, 1, 5, 0);
        askingsDue(x, 3, 1, 1, 1, 2, 1, 5, 0);
        // Half of those LET is good where one of the two bad ones is not LET.
        askingsDue(x, 4, 1, 1, 1, 2, 1, 4, 0);
        askingsDue(x, 6, 1, 1, 1, 2, 1, 4, 0);
        // No share of two is one of three, but all: and of all the same share is not good.
        askingsDue(x, 5, 1, 1, 1, 2, 0, NONE, 1);
        askingsDue(x, 7, 1, 1, 1, 2, 0, NONE, 1);
    }

    // Promise 22: "GIVEN UP: the fewest ASKINGS of the set without which it can be met (NONE: not even without all)"
    private static void givenUp() {
        AlikeUnlike x = new AlikeUnlike();
        // All good against all bad: asking 1 has no share, asking 2 is 1 and 0.
        askingsDue(x, 7, 2, 0, 0, 2, 0, NONE, 2);
        askingsDue(x, 6, 2, 0, 0, 2, 0, NONE, 2);
        askingsDue(x, 5, 2, 0, 0, 2, 0, NONE, 1);
        askingsDue(x, 3, 2, 0, 0, 2, 0, NONE, 1);
        askingsDue(x, 4, 2, 0, 0, 2, 0, NONE, 1);
        askingsDue(x, 1, 2, 0, 0, 2, 1, 4, 0);
        askingsDue(x, 7, 2, 0, 0, 0, 0, NONE, NONE);
    }

    // ---- promise 23

    // Promise 23: "one number of THE PROGRAM's CONDITIONS (the i-th in the text, from 0) told otherwise (0 to 99)"
    private static void noughtToNinetyNine() {
        // By 0 both are LET.
        mendDue(withTwo("a>4:1;:0", 20, 1), 7, 0, 1, 0, 0, 4);
        // By a number below 0 alone both would be: by 20 none is.
        mendDue(withTwo("a>4:1;:0", 20, 0), 7, 0, 1, 0, 20, 16);
        // The first one's product is 99: by 99 none is LET.
        AlikeUnlike x = with("a*b>50:1;:0");
        rows(x, 1109, unit(7));
        mendDue(x, 7, 0, 1, 0, 99, 49);
        // It is 100: 99 is too little, and 100 is none of the numbers.
        x = with("a*b>50:1;:0");
        rows(x, 2005, unit(7));
        mendDue(x, 7, 0, 1, NONE, NONE, NONE);
        // From 0 to 99, and from 99 to 0.
        x = with("a*b>0:1;:0");
        rows(x, 1109, unit(7));
        mendDue(x, 7, 0, 1, 0, 99, 99);
        x = with("99<a*b+1:1;:0");
        rows(x, 2005, unit(7));
        mendDue(x, 7, 0, 1, 0, 0, 99);
    }

    // Promise 23: "one number of THE PROGRAM's CONDITIONS (the i-th in the text, from 0)"
    private static void theNumbersOfTheText() {
        // Neither END is a number of a CONDITION; 12 is one number.
        AlikeUnlike x = withTwo("12=b:1;20<b:0;a>4:1;:0", 9, 3);
        due("numbers", x.count(4), 3);
        mendDue(x, 7, 0, 1, 2, 2, 2);
        x = withTwo("b=a:1;:0", 0, 1);
        due("numbers", x.count(4), 0);
        mendDue(x, 7, 0, 1, NONE, NONE, NONE);
        x = withTwo("07<a:1;:0", 9, 3);
        mendDue(x, 7, 0, 1, 0, 9, 2);
    }

    // Promise 23: "least changed; of like ones the least i, then the lesser number"; "what = 0 which number of THE PROGRAM, 1 what it becomes, 2 by how much it is changed"
    private static void leastChanged() {
        // i 0 by 3 (to 7), i 1 by 1 (to 7).
        mendDue(withTwo("a>4&a<8:1;:0", 7, 9), 7, 0, 1, 1, 7, 1);
        // By 1 both: a>5 or a<5 lets none of 5 and 9.
        mendDue(withTwo("a>4&a<6:1;:0", 5, 9), 7, 0, 1, 0, 5, 1);
        // Both are i 0, by 1: 3 lets none, 5 neither.
        mendDue(withTwo("a=4:1;:0", 4, 9), 7, 0, 1, 0, 3, 1);
        // i 0 by 1 to the greater number, i 1 by 1 to the lesser one: i 0 is ahead.
        mendDue(withTwo("a>4&7>a+1:1;:0", 5, 9), 7, 0, 1, 0, 5, 1);
        // To the lesser number, 0, it would be changed by 5.
        mendDue(withTwo("a>5:1;:0", 8, 1), 7, 0, 1, 0, 8, 3);
    }

    // Promise 23: "(all 0 as it is: NONE, 0, 0 where the GAP is nought already)"
    private static void noughtAlready() {
        AlikeUnlike x = withTwo("a>4:1;:0", 5, 6);
        mendDue(x, 7, 0, 1, NONE, 0, 0);
        tell(x, ":0");
        mendDue(x, 7, 0, 1, NONE, 0, 0);
        tell(x, "a>5:1;:0");
        mendDue(x, 7, 0, 1, 0, 4, 1);
        due("done", x.count(6), 9);
    }

    // Promise 23: "NONE: there is none (what 2: -1, too)."
    private static void thereIsNone() {
        mendDue(withTwo("b<a:1;:0", 1, 0), 7, 0, 1, NONE, NONE, NONE);
        // No number makes 0*a other.
        mendDue(withTwo("b*9<a:1;:0", 1, 0), 7, 0, 1, NONE, NONE, NONE);
        mendDue(withTwo("9*b<a:1;:0", 1, 0), 7, 0, 1, NONE, NONE, NONE);
    }

    // Promise 23: "so that the GAP of two groups is nought"
    private static void likeRatesOfUnlikeGroups() {
        AlikeUnlike x = with("a>4:1;:0");
        // Of group 0 one of two is let, of group 1 two of four would be by 6.
        rows(x, 9, 0, 105, 106, 107, 108);
        mendDue(x, 1, 0, 1, 0, 6, 2);
        due("THE PROGRAM stays", x.run(5, 0), 1);
        due("RUNS of ROWS stay", x.end(2), 1);
        // Whoever else came does not matter.
        rows(x, 209, 208, 9907);
        mendDue(x, 1, 0, 1, 0, 6, 2);
        mendDue(x, 1, 1, 0, 0, 6, 2);
        // Of group 2 one of two would be by 8.
        mendDue(x, 1, 0, 2, 0, 8, 4);
    }

    // Promise 23: "UNKNOWN, OUTSIDE (also what), STATE, as gap()"
    private static void refusalsOfMend() {
        AlikeUnlike x = withGroups();
        for (int wrong : new int[] {-1, 21, MIN, MAX}) {
            due("v " + wrong, x.mend(1, wrong, 0, 0), OUTSIDE);
            due("w " + wrong, x.mend(1, 0, wrong, 0), OUTSIDE);
        }
        for (int wrong : new int[] {-1, 3, MIN, MAX}) {
            due("what " + wrong, x.mend(1, 0, 1, wrong), OUTSIDE);
        }
        due("the same", x.mend(1, 1, 1, 0), OUTSIDE);
        due("w has no ROW", x.mend(1, 0, 20, 0), STATE);
        due("v has no ROW", x.mend(1, 20, 0, 0), STATE);
        due("UNKNOWN is ahead", x.mend(8, 0, 0, 3), UNKNOWN);
        due("OUTSIDE is ahead", x.mend(1, 20, 0, 3), OUTSIDE);
        due("none was done", x.count(6), 0);
        AlikeUnlike none = new AlikeUnlike();
        rows(none, 0, 1);
        due("no PROGRAM", none.mend(0, 0, 1, 0), STATE);
        due("OUTSIDE is ahead", none.mend(0, 0, 1, 3), OUTSIDE);
        due("none was done", none.count(6), 0);
    }

    // Promise 23: "STATE, too: it was done 20 times."
    private static void twentyTimes() {
        AlikeUnlike x = withTwo("a>4:1;:0", 9, 3);
        for (int i = 1; i <= 20; i++) {
            due("UNKNOWN is not done", x.mend(8, 0, 1, 0), UNKNOWN);
            due("OUTSIDE is not done", x.mend(7, 0, 1, 3), OUTSIDE);
            due("STATE is not done", x.mend(7, 0, 2, 0), STATE);
            due("done " + i, x.mend(7, 0, 1, 1), 2);
            due("count", x.count(6), i);
        }
        due("the 21st", x.mend(7, 0, 1, 1), STATE);
        tell(x, ":1");
        due("of another PROGRAM", x.mend(7, 0, 1, 1), STATE);
        due("OUTSIDE is ahead", x.mend(7, 0, 1, 3), OUTSIDE);
        due("UNKNOWN is ahead", x.mend(-1, 0, 1, 3), UNKNOWN);
        due("count", x.count(6), 20);
    }
}
