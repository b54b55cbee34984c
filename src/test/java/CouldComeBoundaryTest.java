/** Promises 12 to 15: a test for each sentence that names a boundary case. */
public final class CouldComeBoundaryTest extends Dues {
    private static final int END_0 = 1, END_1 = 2, BOTH = 3;

    public static void main(String[] args) throws Exception {
        runAll(CouldComeBoundaryTest.class);
    }

    /** a is the one FIELD with two numbers, and of that KIND. */
    private static AlikeUnlike withTwoNumbers(String program, int kind) {
        AlikeUnlike x = with(program);
        narrow(x, 0, 1);
        x.field(0, KIND, kind);
        return x;
    }

    /** a is the one FIELD with more than one number. */
    private static AlikeUnlike withSpan(String program, int least, int greatest) {
        AlikeUnlike x = with(program);
        narrow(x, 0, greatest);
        x.field(0, LEAST, least);
        return x;
    }

    /** ENDS of one LINE that lets, or else refuses: END_1 if it is SURE, END_0 if it is NEVER, BOTH if it is MAYBE. */
    private static void truthDue(String condition, long least, long greatest, int ends) {
        due("ends(" + least + ", " + greatest + ") of " + condition, with(condition + ":1;:0").ends(least, greatest), ends);
    }

    // ---- promise 12

    // Promise 12: "within so many BOXES (1 to 2000)"; "each BOX that is looked at is CUT or done"
    private static void oneToTwoThousand() {
        AlikeUnlike x = with("a-a+b-b+c-c=1:1;:0");
        for (int boxes : new int[] {0, -1, 2001, MIN, MAX}) {
            due("boxes " + boxes, x.seek(NONE, boxes), OUTSIDE);
        }
        due("none was done", x.count(5), 0);
        due("1", x.seek(NONE, 1), SPENT);
        due("looked at", x.sought(0), 1);
        due("2000", x.seek(NONE, 2000), SPENT);
        due("looked at", x.sought(0), 2000);
        due("each was CUT or done", x.sought(1) + x.sought(2), 2000);
    }

    // Promise 12: "SOUGHT ALIKE (f is NONE), or MORE in a FIELD f"; "UNKNOWN: f"
    private static void noneOrAField() {
        AlikeUnlike x = withTwoNumbers("a=1:1;:0", BARRED);
        due("ALIKE", x.seek(NONE, 2000), 0);
        for (int f = 0; f < 8; f++) {
            due("MORE in " + f, x.seek(f, 2000), 1);
        }
        for (int f : new int[] {-2, 8, MIN, MAX}) {
            due("f " + f, x.seek(f, 2000), UNKNOWN);
        }
        due("done", x.count(5), 9);
    }

    // Promise 12: "STATE: there is no PROGRAM, or it was done 40 times."
    private static void fortyTimes() {
        AlikeUnlike x = new AlikeUnlike();
        due("no PROGRAM", x.seek(NONE, 1), STATE);
        tell(x, "a=1:1;:0");
        narrow(x, 0, 1);
        x.field(0, KIND, BARRED);
        due("not done yet", x.count(5), 0);
        for (int i = 1; i < 40; i++) {
            due("UNKNOWN is not done", x.seek(8, 1), UNKNOWN);
            due("OUTSIDE is not done", x.seek(NONE, 0), OUTSIDE);
            due("done " + i, x.seek(NONE, 3), SPENT);
            due("count", x.count(5), i);
        }
        due("the 40th", x.seek(NONE, 4), 0);
        due("the 41st", x.seek(NONE, 3), STATE);
        due("the 41st, of MORE", x.seek(0, 3), STATE);
        due("count", x.count(5), 40);
        due("sought stays", x.sought(0), 4);
        pairDue(x, 0, 1);
    }

    // Promise 12: "Refusals, of several the first as told by each call"
    private static void refusalsOfSeek() {
        AlikeUnlike x = new AlikeUnlike();
        due("UNKNOWN ahead of OUTSIDE", x.seek(8, 0), UNKNOWN);
        due("UNKNOWN ahead of STATE", x.seek(-2, 1), UNKNOWN);
        due("OUTSIDE ahead of STATE", x.seek(NONE, 2001), OUTSIDE);
        due("OUTSIDE ahead of STATE", x.seek(7, 0), OUTSIDE);
        due("nothing was SOUGHT", x.sought(0), STATE);
    }

    // Promise 12: "If so many BOXES as told were looked at, none of them a PAIR, and there is still another one: SPENT."
    private static void spentAheadOfThePair() {
        AlikeUnlike x = withTwoNumbers("a=1:1;:0", BARRED);
        // (0..1, 0..1), (0, 0..1), (0, 0), (0, 1): the fourth one is the PAIR.
        seekDue(x, NONE, 1, SPENT, 1, 1, 0);
        seekDue(x, NONE, 2, SPENT, 2, 2, 0);
        seekDue(x, NONE, 3, SPENT, 3, 2, 1);
        pairDue(x, -1, -1);
        seekDue(x, NONE, 4, 0, 4, 2, 1);
        pairDue(x, 0, 1);
        seekDue(x, NONE, 5, 0, 4, 2, 1);
    }

    // Promise 12: "and there is still another one: SPENT"
    private static void theLastBoxIsDone() {
        AlikeUnlike x = withTwoNumbers("a=1:1;:0", PLAIN);
        seekDue(x, NONE, 2, SPENT, 2, 1, 1);
        seekDue(x, NONE, 3, 1, 3, 1, 2);
        seekDue(x, NONE, 4, 1, 3, 1, 2);
        seekDue(with(":1"), NONE, 1, 1, 1, 0, 1);
        // The only box is CUT: its halves are still there.
        seekDue(x, NONE, 1, SPENT, 1, 1, 0);
    }

    // Promise 12: "ALIKE: both have the same number in FIELDS that COUNT, each its own in others."
    private static void eachItsOwnInOthers() {
        for (int kind = 0; kind <= 4; kind++) {
            AlikeUnlike x = withTwoNumbers("a=1:1;:0", kind);
            if (kind == BARRED || kind == KIN) {
                seekDue(x, NONE, 2000, 0, 4, 2, 1);
                pairDue(x, 0, 1);
            } else {
                seekDue(x, NONE, 2000, 1, 3, 1, 2);
            }
        }
    }

    // Promise 12: "MORE in a FIELD f: both have the same number in all but f; the second one's is greater."
    private static void theSameInAllBut() {
        AlikeUnlike x = with("b=1:0;:1");
        narrow(x, 0, 1, 1, 1);
        x.field(1, KIND, BARRED);
        seekDue(x, 0, 2000, 1, 7, 3, 4);
        due("in b itself", x.seek(1, 2000), 0);
        pairDue(x, 0, 100);
    }

    // Promises 12, 14: "a BOX: for each FIELD a span of the first one's, a span of the second one's numbers; where it is told, both have the same number: one span."
    private static void oneSpanForBoth() {
        AlikeUnlike x = with("c=2&a=1:1;:0");
        narrow(x, 0, 1, 2, 2);
        x.field(0, KIND, BARRED);
        // (0..1, 0..1) with c of 0..2, 0..1, then of 2; (0, 0..1), (0, 0), (0, 1).
        seekDue(x, NONE, 2000, 0, 6, 3, 2);
        pairDue(x, 20000, 20001);
        // MORE: each FIELD but a is one span, though it does not COUNT.
        x.field(2, KIND, BARRED);
        tell(x, "c=2&a=1:0;:1");
        seekDue(x, 0, 2000, 0, 6, 3, 2);
        pairDue(x, 20000, 20001);
    }

    // Promises 12, 14: "1 (no PAIR: it holds), 0 (a PAIR is shown), SPENT"; "(MORE: single numbers with the second one's greater than the first one's.)"
    private static void theSecondOnesGreater() {
        AlikeUnlike x = withSpan("a=2:0;:1", 0, 2);
        // (0..2, 0..2), (0..1, 0..2), (0..1, 0..1); (0..1, 2) has END 1 and END 0, but is not of single numbers: it is CUT.
        seekDue(x, 0, 4, SPENT, 4, 3, 1);
        seekDue(x, 0, 5, 0, 5, 3, 1);
        pairDue(x, 0, 2);
        // Less that is refused is no PAIR of MORE, nor is the same number.
        tell(x, "a=0:0;:1");
        due("it holds", x.seek(0, 2000), 1);
        tell(x, "a=1:1;:0");
        x.field(0, GREATEST, 1);
        due("it holds", x.seek(0, 2000), 1);
        pairDue(x, -1, -1);
    }

    // Promise 12: "from the one of all SPANS on"
    private static void fromAllSpans() {
        AlikeUnlike x = withSpan("a=3:1;a=7:1;:0", 4, 6);
        x.field(0, KIND, BARRED);
        due("nobody has 3 or 7", x.seek(NONE, 2000), 1);
        x.field(0, LEAST, 3);
        due("3 is within", x.seek(NONE, 2000), 0);
        x.field(0, LEAST, 4);
        x.field(0, GREATEST, 7);
        due("7 is within", x.seek(NONE, 2000), 0);
    }

    // Promise 12: "Done: a LAW is NEVER so for one of both"
    private static void neverForOneOfBoth() {
        AlikeUnlike x = withTwoNumbers("a=1:1;:0", BARRED);
        lay(x, "a=0");
        // (0, 1) is done by the second one, (1, 0..1) by the first one.
        seekDue(x, NONE, 2000, 1, 5, 2, 3);
        x.strike();
        lay(x, "a=1");
        // (0, 0..1) is done by the first one, (1, 0) by the second one.
        seekDue(x, NONE, 2000, 1, 5, 2, 3);
        x.strike();
        lay(x, "a=2");
        seekDue(x, NONE, 2000, 1, 1, 0, 1);
    }

    // Promise 12: "Done: a LAW is NEVER so for one of both"
    private static void maybeIsNotNever() {
        AlikeUnlike x = withTwoNumbers("a=1:1;:0", BARRED);
        lay(x, "a=0|a=1");
        seekDue(x, NONE, 2000, 0, 4, 2, 1);
        lay(x, "a-a=0");
        seekDue(x, NONE, 2000, 0, 4, 2, 1);
        // MAYBE for 0..1, and NEVER for 0 and for 1.
        lay(x, "!a=1&!a=0");
        seekDue(x, NONE, 2000, 1, 3, 1, 2);
    }

    // Promise 12: "of MORE: the second one's greatest in f is not above the first one's least (there is no such pair)"
    private static void notAbove() {
        AlikeUnlike x = withTwoNumbers("a=0:0;:1", PLAIN);
        // (0..1, 0..1), (0, 0..1), (0, 0), (0, 1), (1, 0..1): the last one is done, for 1 is not above 1.
        seekDue(x, 0, 2000, 1, 5, 2, 3);
        x = withTwoNumbers("a=1:0;:1", PLAIN);
        // (0, 1) is the fourth: 1 is above 0.
        seekDue(x, 0, 2000, 0, 4, 2, 1);
        pairDue(x, 0, 1);
        x = withTwoNumbers("a-a=0:0;:1", PLAIN);
        x.field(0, GREATEST, 0);
        seekDue(x, 0, 2000, 1, 1, 0, 1);
    }

    // Promise 12: "both have but one END, and these: ALIKE: are the same"
    private static void alikeOfOneEnd() {
        seekDue(with(":0"), NONE, 1, 1, 1, 0, 1);
        seekDue(with(":1"), NONE, 1, 1, 1, 0, 1);
        seekDue(with("a=1:0;:0"), NONE, 1, 1, 1, 0, 1);
        // One has one END, the other both: not done.
        AlikeUnlike x = withTwoNumbers("a=0:1;:0", BARRED);
        seekDue(x, NONE, 2, SPENT, 2, 2, 0);
        // The first one's END is 1, the second one's 0: a PAIR, too.
        seekDue(x, NONE, 2000, 0, 4, 2, 1);
        pairDue(x, 0, 1);
    }

    // Promise 12: "MORE: the first one's is not 1, or the second one's is not 0"
    private static void moreOfOneEnd() {
        seekDue(with(":0"), 0, 1, 1, 1, 0, 1);
        seekDue(with(":1"), 0, 1, 1, 1, 0, 1);
        // 0 for the less, 1 for the more: done at the single numbers.
        seekDue(withTwoNumbers("a=1:1;:0", PLAIN), 0, 2000, 1, 5, 2, 3);
        // 1 for the less, 0 for the more.
        seekDue(withTwoNumbers("a=1:0;:1", PLAIN), 0, 2000, 0, 4, 2, 1);
        // The first one's is 0, the second one has both: not done.
        seekDue(withTwoNumbers("a=1:1;:0", PLAIN), 0, 2, SPENT, 2, 2, 0);
        // The first one has both, the second one's is 0: (0..1, 2) is the eighth, and not done.
        AlikeUnlike x = withSpan("a=1:1;:0", 0, 2);
        seekDue(x, 0, 8, SPENT, 8, 5, 3);
        seekDue(x, 0, 2000, 0, 10, 5, 4);
        pairDue(x, 1, 2);
    }

    // Promises 12, 13: "A BOX of single numbers that is not done is a PAIR."
    private static void singleNumbers() {
        AlikeUnlike x = with("a=0:1;:0");
        narrow(x);
        // The only BOX is of single numbers, and done.
        seekDue(x, NONE, 1, 1, 1, 0, 1);
        seekDue(x, 0, 1, 1, 1, 0, 1);
        x.field(0, GREATEST, 1);
        x.field(0, KIND, KIN);
        seekDue(x, NONE, 2000, 0, 4, 2, 1);
    }

    // Promise 12: "CUT: the span with most numbers"
    private static void mostNumbers() {
        AlikeUnlike x = with("b=1:1;:0");
        narrow(x, 0, 2, 1, 1);
        // a has three numbers: it is cut ahead of b, though nothing reads it.
        seekDue(x, NONE, 2000, 1, 11, 5, 6);
        x = with("a=9:1;:0");
        narrow(x, 0, 9, 1, 2);
        x.field(0, LEAST, 8);
        // a has two numbers, b three, though a's are greater.
        seekDue(x, NONE, 2000, 1, 7, 3, 4);
    }

    // Promise 12: "of like ones: of the least FIELD; the first one's ahead of the second one's"
    private static void ofLikeOnesTheLeastField() {
        AlikeUnlike x = with("b=1:1;:0");
        narrow(x, 0, 1, 1, 1);
        seekDue(x, NONE, 2000, 1, 7, 3, 4);
        x = with("a=1:1;:0");
        narrow(x, 0, 1, 1, 1);
        seekDue(x, NONE, 2000, 1, 3, 1, 2);
        x = with("g=1:1;:0");
        narrow(x, 6, 1, 7, 1);
        seekDue(x, NONE, 2000, 1, 3, 1, 2);
    }

    // Promise 12: "of like ones: of the least FIELD; the first one's ahead of the second one's"
    private static void theFirstOnesAhead() {
        AlikeUnlike x = withTwoNumbers("a=1:1;:0", BARRED);
        due("seek", x.seek(NONE, 2000), 0);
        pairDue(x, 0, 1);
        // a of the first one, a of the second one, b of the first one, b of the second one.
        x = with("b=1:1;:0");
        narrow(x, 0, 1, 1, 1);
        x.field(0, KIND, BARRED);
        x.field(1, KIND, BARRED);
        lay(x, "b=1");
        seekDue(x, NONE, 2000, 1, 23, 11, 12);
    }

    // Promise 12: "in two halves: from its least to the middle (least and greatest by 2, rounded down), and the rest"
    private static void roundedDown() {
        int[][] spans = {{0, 1, 0}, {0, 2, 1}, {1, 2, 1}, {1, 4, 2}, {0, 20, 10}, {3, 20, 11}, {19, 20, 19}, {18, 20, 19}, {1, 20, 10}};
        for (int[] span : spans) {
            AlikeUnlike x = withSpan("a>" + span[2] + ":1;:0", span[0], span[1]);
            seekDue(x, NONE, 2000, 1, 3, 1, 2);
        }
        // 0..1 is cut once more.
        seekDue(withSpan("a>0:1;:0", 0, 2), NONE, 2000, 1, 5, 2, 3);
        // 11..20 is cut in 11..15 and 16..20.
        seekDue(withSpan("a>15:1;:0", 0, 20), NONE, 2000, 1, 5, 2, 3);
    }

    // Promise 12: "the lower half is gone through ahead of the upper one"
    private static void theLowerHalfAhead() {
        AlikeUnlike x = withSpan("a=1|a=3:1;:0", 0, 3);
        x.field(0, KIND, BARRED);
        // (0..3, 0..3), (0..1, 0..3), (0..1, 0..1), (0, 0..1), (0, 0), (0, 1)
        seekDue(x, NONE, 2000, 0, 6, 4, 1);
        pairDue(x, 0, 1);
        x = withSpan("a=1|a=3:0;:1", 0, 3);
        seekDue(x, 0, 2000, 0, 6, 4, 1);
        pairDue(x, 0, 1);
    }

    // Promise 12: "each its own in others"; "A SPAN from least to greatest (0 to 20; 0 to 9 at first)"
    private static void allSpansOfTwentyOne() {
        AlikeUnlike x = with("a-a+b-b+c-c+d-d+e-e+f-f+g-g+h-h=0&h=1:1;:0");
        for (int f = 0; f < 8; f++) {
            x.field(f, KIND, f % 2 + 1);
            x.field(f, GREATEST, 20);
        }
        // 16 spans, each single after five cuts; then (0, 0) in h is done, and (0, 1) the PAIR.
        seekDue(x, NONE, 81, SPENT, 81, 80, 1);
        seekDue(x, NONE, 82, 0, 82, 80, 1);
        pairDue(x, 0, unit(7));
    }

    // ---- promise 13

    // Promise 13: "Of what was SOUGHT last: how many BOXES were looked at (what = 0), CUT (1), done (2)."
    private static void ofTheLastOne() {
        AlikeUnlike x = withTwoNumbers("a=1:1;:0", BARRED);
        seekDue(x, NONE, 2000, 0, 4, 2, 1);
        seekDue(x, 1, 2000, 1, 1, 0, 1);
        seekDue(x, NONE, 3, SPENT, 3, 2, 1);
        due("UNKNOWN", x.seek(8, 1), UNKNOWN);
        due("OUTSIDE", x.seek(NONE, 0), OUTSIDE);
        due("looked at", x.sought(0), 3);
        due("CUT", x.sought(1), 2);
        due("done", x.sought(2), 1);
        tell(x, ":1");
        due("of the PROGRAM before", x.sought(0), 3);
    }

    // Promise 13: "OUTSIDE; STATE: nothing was."
    private static void refusalsOfSought() {
        AlikeUnlike x = new AlikeUnlike();
        for (int what = 0; what <= 2; what++) {
            due("nothing was", x.sought(what), STATE);
        }
        tell(x, ":1");
        due("nothing was", x.sought(0), STATE);
        for (int what : new int[] {-1, 3, MIN, MAX}) {
            due("OUTSIDE is ahead", x.sought(what), OUTSIDE);
        }
        due("seek", x.seek(NONE, 1), 1);
        for (int what : new int[] {-1, 3, MIN, MAX}) {
            due("what " + what, x.sought(what), OUTSIDE);
        }
        due("CUT", x.sought(1), 0);
    }

    // ---- promise 14

    // Promise 14: "the first one (which = 0), the second one (1), as numbers of base 100"
    private static void asNumbers() {
        for (int f = 0; f < 8; f++) {
            AlikeUnlike x = with((char) ('a' + f) + "=20:1;:0");
            for (int g = 0; g < 8; g++) {
                x.field(g, LEAST, 7);
                x.field(g, GREATEST, g == f ? 20 : 7);
            }
            due("seek", x.seek(f, 2000), 1);
            pairDue(x, -1, -1);
            x.field(f, KIND, BARRED);
            due("seek", x.seek(NONE, 2000), 0);
            pairDue(x, 707070707070707L, 707070707070707L + 13 * unit(f));
        }
    }

    // Promise 14: "-1: the last search showed none, or there was none."
    private static void noPair() {
        AlikeUnlike x = new AlikeUnlike();
        pairDue(x, -1, -1);
        due("a search refused", x.seek(NONE, 1), STATE);
        pairDue(x, -1, -1);
        x = withTwoNumbers("a=1:1;:0", BARRED);
        pairDue(x, -1, -1);
        due("shown", x.seek(NONE, 4), 0);
        pairDue(x, 0, 1);
        due("refused", x.seek(NONE, 0), OUTSIDE);
        pairDue(x, 0, 1);
        due("spent", x.seek(NONE, 3), SPENT);
        pairDue(x, -1, -1);
        due("shown", x.seek(NONE, 4), 0);
        due("holds", x.seek(0, 2000), 1);
        pairDue(x, -1, -1);
    }

    // Promise 14: "The PAIR shown last"
    private static void thePairStays() {
        AlikeUnlike x = withTwoNumbers("a=1:1;:0", BARRED);
        due("shown", x.seek(NONE, 4), 0);
        tell(x, ":1");
        x.field(0, KIND, PLAIN);
        lay(x, "a=0");
        rows(x, 0, 1);
        pairDue(x, 0, 1);
        pairDue(x, 0, 1);
    }

    // Promise 14: "OUTSIDE: -2."
    private static void whichOutside() {
        AlikeUnlike x = withTwoNumbers("a=1:1;:0", BARRED);
        for (int which : new int[] {-1, 2, MIN, MAX}) {
            due("pair(" + which + ")", x.pair(which), -2);
        }
        due("shown", x.seek(NONE, 4), 0);
        for (int which : new int[] {-1, 2, MIN, MAX}) {
            due("pair(" + which + ")", x.pair(which), -2);
        }
    }

    // ---- promise 15

    // Promise 15: "both as persons are told"
    private static void figuresOfASpan() {
        AlikeUnlike x = with(":1");
        for (int f = 0; f < 8; f++) {
            for (int figure = 0; figure <= 99; figure++) {
                due("least " + figure, x.ends(figure * unit(f), 20 * unit(f)), figure <= 20 ? END_1 : OUTSIDE);
                due("greatest " + figure, x.ends(0, figure * unit(f)), figure <= 20 ? END_1 : OUTSIDE);
            }
        }
    }

    // Promise 15: "both as persons are told"
    private static void spansOutside() {
        AlikeUnlike x = with(":1");
        for (long wrong : new long[] {-1, -100, 10000000000000000L, Long.MAX_VALUE, Long.MIN_VALUE, 1L << 32, 21}) {
            due("least " + wrong, x.ends(wrong, 2020202020202020L), OUTSIDE);
            due("greatest " + wrong, x.ends(0, wrong), OUTSIDE);
        }
        due("the widest", x.ends(0, 2020202020202020L), END_1);
    }

    // Promise 15: "none MISSING"
    private static void noneMissing() {
        AlikeUnlike x = with(":1");
        for (int f = 0; f < 8; f++) {
            due("least MISSING in " + f, x.ends(99 * unit(f), 20 * unit(f)), OUTSIDE);
            due("greatest MISSING in " + f, x.ends(0, 99 * unit(f)), OUTSIDE);
            due("both MISSING in " + f, x.ends(99 * unit(f), 99 * unit(f)), OUTSIDE);
        }
    }

    // Promise 15: "least not above greatest"
    private static void leastNotAbove() {
        AlikeUnlike x = with(":1");
        for (int f = 0; f < 8; f++) {
            due("one above", x.ends(8 * unit(f), 2020202020202020L - 13 * unit(f)), OUTSIDE);
            due("as great", x.ends(7 * unit(f), 2020202020202020L - 13 * unit(f)), END_1);
            due("below", x.ends(6 * unit(f), 2020202020202020L - 13 * unit(f)), END_1);
        }
    }

    // Promise 15: "OUTSIDE; STATE: there is no PROGRAM."
    private static void refusalsOfEnds() {
        AlikeUnlike x = new AlikeUnlike();
        due("no PROGRAM", x.ends(0, 0), STATE);
        due("OUTSIDE is ahead", x.ends(-1, 0), OUTSIDE);
        due("OUTSIDE is ahead", x.ends(0, 21), OUTSIDE);
        due("OUTSIDE is ahead", x.ends(1, 0), OUTSIDE);
        due("OUTSIDE is ahead", x.ends(99, 99), OUTSIDE);
    }

    // Promise 15: "spans for FIELDS told as figures of base 100"
    private static void whateverTheSpansOfFields() {
        AlikeUnlike x = with("a>9:1;:0");
        narrow(x);
        lay(x, "a<5");
        due("beyond the SPAN", x.ends(10, 20), END_1);
        due("in it, and beyond", x.ends(0, 10), BOTH);
        due("in it", x.ends(0, 0), END_0);
    }

    // Promise 15: "bit 0: END 0 may be, bit 1: END 1."
    private static void bitsOfEnds() {
        due(":0", with(":0").ends(0, 20), END_0);
        due(":1", with(":1").ends(0, 20), END_1);
        due("MAYBE", with("a=1:0;:1").ends(0, 1), BOTH);
        due("MAYBE, and the same", with("a=1:0;:0").ends(0, 1), END_0);
    }

    // Promises 12, 15: "one that is MAYBE: its END, and on; one that is SURE: its END, and no more; the last END."
    private static void linesOnABox() {
        // a is 0 to 1, b is 1, c is 0.
        String[] programs = {"a=1:1;b=1:0;:1", "a=1:0;b=1:0;:1", "c=1:1;a=1:0;:0", "b=1:1;a=1:0;:0", "c=1:0;:1", "b=1:0;:1",
            "a=1:1;:1", "a=1:1;a=0:1;:0", "c=1:1;c=1:1;:0", "a=1:1;c=1:0;b=1:1;:0"};
        int[] due = {BOTH, END_0, END_0, END_1, END_1, END_0, END_1, BOTH, END_0, END_1};
        for (int i = 0; i < programs.length; i++) {
            due("ends of " + programs[i], with(programs[i]).ends(100, 101), due[i]);
        }
    }

    // Promises 12, 15: "A comparison is SURE (it holds for all numbers of both sides), NEVER (for none"
    private static void lessOnABox() {
        truthDue("a<5", 0, 4, END_1);
        truthDue("a<5", 4, 4, END_1);
        truthDue("a<5", 0, 5, BOTH);
        truthDue("a<5", 4, 5, BOTH);
        truthDue("a<5", 5, 5, END_0);
        truthDue("a<5", 5, 9, END_0);
        truthDue("a<b", 300, 502, END_1);
        truthDue("a<b", 300, 503, BOTH);
        truthDue("a<b", 5, 509, END_0);
        truthDue("a<b", 4, 509, BOTH);
    }

    // Promises 12, 15: "A comparison is SURE (it holds for all numbers of both sides), NEVER (for none"
    private static void moreOnABox() {
        truthDue("a>5", 6, 9, END_1);
        truthDue("a>5", 6, 6, END_1);
        truthDue("a>5", 5, 9, BOTH);
        truthDue("a>5", 5, 6, BOTH);
        truthDue("a>5", 5, 5, END_0);
        truthDue("a>5", 0, 5, END_0);
        truthDue("b>a", 300, 502, END_1);
        truthDue("b>a", 300, 503, BOTH);
        truthDue("b>a", 5, 509, END_0);
        truthDue("b>a", 4, 509, BOTH);
    }

    // Promises 12, 15: "of "=" where the sides do not meet; SURE where both are one number and the same"
    private static void likeOnABox() {
        truthDue("a=5", 5, 5, END_1);
        truthDue("a=5", 4, 5, BOTH);
        truthDue("a=5", 5, 6, BOTH);
        truthDue("a=5", 4, 6, BOTH);
        truthDue("a=5", 0, 4, END_0);
        truthDue("a=5", 6, 9, END_0);
        truthDue("5=a", 5, 6, BOTH);
        truthDue("a=b", 300, 503, BOTH);
        truthDue("a=b", 400, 503, END_0);
        truthDue("a=b", 3, 305, BOTH);
        truthDue("a=b", 3, 205, END_0);
        truthDue("a=b", 202, 202, END_1);
        truthDue("a=b", 202, 302, BOTH);
        truthDue("a=b", 202, 303, BOTH);
        // Like spans of more than one number are not SURE; nor is a FIELD and itself.
        truthDue("a=a", 0, 1, BOTH);
        truthDue("a=a", 1, 1, END_1);
    }

    // Promises 12, 15: "On a BOX a SUM is from the least to the greatest that its spans let: of "+", "-", "*" by what both sides let"
    private static void plusOnABox() {
        // a is 1 to 2, b is 3 to 4: a+b is 4 to 6.
        truthDue("a+b<4", 301, 402, END_0);
        truthDue("a+b=4", 301, 402, BOTH);
        truthDue("a+b>3", 301, 402, END_1);
        truthDue("a+b>6", 301, 402, END_0);
        truthDue("a+b=6", 301, 402, BOTH);
        truthDue("a+b<7", 301, 402, END_1);
        truthDue("a+a=4", 2, 2, END_1);
    }

    // Promises 12, 15: "of "+", "-", "*" by what both sides let"
    private static void minusOnABox() {
        // a-b is -3 to -1, b-a is 1 to 3.
        truthDue("a-b<0-3", 301, 402, END_0);
        truthDue("a-b=0-3", 301, 402, BOTH);
        truthDue("a-b>0-4", 301, 402, END_1);
        truthDue("a-b>0-1", 301, 402, END_0);
        truthDue("a-b=0-1", 301, 402, BOTH);
        truthDue("a-b<0", 301, 402, END_1);
        truthDue("b-a<1", 301, 402, END_0);
        truthDue("b-a>3", 301, 402, END_0);
        truthDue("b-a=1", 301, 402, BOTH);
        truthDue("b-a=3", 301, 402, BOTH);
        // A FIELD less itself is not known to be 0.
        truthDue("a-a=0", 1, 2, BOTH);
        truthDue("a-a=0", 1, 1, END_1);
        truthDue("a-a<2", 1, 2, END_1);
        truthDue("a-a<1", 1, 2, BOTH);
    }

    // Promises 12, 15: "(of "*" the least and greatest of four products)"
    private static void timesOnABox() {
        // a*b is 3 to 8.
        truthDue("a*b<3", 301, 402, END_0);
        truthDue("a*b=3", 301, 402, BOTH);
        truthDue("a*b>2", 301, 402, END_1);
        truthDue("a*b>8", 301, 402, END_0);
        truthDue("a*b=8", 301, 402, BOTH);
        truthDue("a*b<9", 301, 402, END_1);
        truthDue("a*b=0", 0, 402, BOTH);
        truthDue("a*b=0", 0, 400, END_1);
        truthDue("a*b=0", 300, 400, END_1);
        truthDue("b*a=0", 300, 400, END_1);
        truthDue("a*b=1", 101, 101, END_1);
        truthDue("a*b=2", 101, 102, BOTH);
        truthDue("a*b>2", 101, 102, END_0);
        // 2*a*b is 6 to 16, and c less it is below 0.
        truthDue("2*a*b<6", 301, 402, END_0);
        truthDue("2*a*b>16", 301, 402, END_0);
        truthDue("c-2*a*b=0-16", 301, 402, BOTH);
        truthDue("c-2*a*b>0-6", 301, 402, END_0);
        truthDue("20*20*20=h*h*h", 2000000000000000L, 2000000000000000L, END_1);
    }

    // Promises 12, 15: ""!", "&", "|" as of three truths"
    private static void threeTruths() {
        // a=1 is MAYBE, b=1 is SURE, c=1 is NEVER.
        String[] maybe = {"a=1", "!a=1", "!!a=1", "a=1&b=1", "b=1&a=1", "a=1|c=1", "c=1|a=1", "a=1&a=1", "a=1|!a=1", "a=1&!a=1", "!(a=1&b=1)",
            "!a=1&b=1", "b=1&!a=1", "!a=1|c=1", "c=1|!a=1", "!(a=1|c=1)&b=1", "!!a=1&b=1"};
        String[] sure = {"b=1", "!c=1", "a=1|b=1", "b=1|a=1", "!(a=1&c=1)", "b=1&b=1", "c=1|b=1", "!!b=1"};
        String[] never = {"c=1", "!b=1", "a=1&c=1", "c=1&a=1", "!(a=1|b=1)", "b=1&c=1", "c=1|c=1", "!!c=1"};
        for (String one : maybe) {
            truthDue(one, 100, 101, BOTH);
        }
        for (String one : sure) {
            truthDue(one, 100, 101, END_1);
        }
        for (String one : never) {
            truthDue(one, 100, 101, END_0);
        }
    }
}
