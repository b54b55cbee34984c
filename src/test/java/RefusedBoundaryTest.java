/** Promises 24 and 25: a test for each sentence that names a boundary case. */
public final class RefusedBoundaryTest extends Dues {
    public static void main(String[] args) throws Exception {
        runAll(RefusedBoundaryTest.class);
    }

    /** A PROGRAM, those FIELDS as MAY, and one ROW. */
    private static AlikeUnlike withRow(String program, long person, int... may) {
        AlikeUnlike x = with(program);
        for (int f : may) {
            x.field(f, KIND, MAY);
        }
        rows(x, person);
        return x;
    }

    // ---- promise 24

    // Promise 24: "UNKNOWN; OUTSIDE: what (10 to 17 else)"
    private static void firstAndLastRow() {
        AlikeUnlike x = withRow("a>4:1;:0", 3, 0);
        rows(x, 1, 2);
        due("the first", x.refused(0, 0), 2);
        due("the last", x.refused(2, 0), 3);
        for (int row : new int[] {-1, 3, 24, MIN, MAX}) {
            due("row " + row, x.refused(row, 0), UNKNOWN);
        }
        due("no ROW", with(":0").refused(0, 0), UNKNOWN);
    }

    // Promise 24: "of a ROW what = 0 PRICE, 10 and f what FIELD f would be"; "OUTSIDE: what (10 to 17 else)"
    private static void tenToSeventeenElse() {
        AlikeUnlike x = withRow("a>4:1;:0", 807060504030201L, 0);
        due("PRICE", x.refused(0, 0), 4);
        due("a", x.refused(0, 10), 5);
        for (int f = 1; f < 8; f++) {
            due("FIELD " + f, x.refused(0, 10 + f), f + 1);
        }
        for (int what : new int[] {-1, 1, 2, 7, 8, 9, 18, 19, MIN, MAX}) {
            due("what " + what, x.refused(0, what), OUTSIDE);
        }
    }

    // Promise 24: "NONE: nobody is so."
    private static void nobodyIsSo() {
        AlikeUnlike x = withRow(":0", 3, 0);
        refusedDue(x, 0, NONE);
        x = withRow("a>4:1;:0", 3);
        // There is no MAY.
        refusedDue(x, 0, NONE);
        x = withRow("a>9:1;:0", 3, 0);
        refusedDue(x, 0, NONE);
    }

    // Promise 24: "STATE: there is no PROGRAM, a number is MISSING, or its RUN is not 0."; "REFUSED: a ROW without MISSING numbers, whose RUN is 0"
    private static void notRefused() {
        AlikeUnlike x = new AlikeUnlike();
        x.field(0, KIND, MAY);
        rows(x, 3, 6, 99, 9900000000000003L);
        due("no PROGRAM", x.refused(0, 0), STATE);
        tell(x, "a>4:1;:0");
        due("RUN 0", x.refused(0, 0), 2);
        due("RUN 1", x.refused(1, 0), STATE);
        due("RUN 2", x.refused(2, 0), STATE);
        due("RUN 0, but MISSING in h", x.refused(3, 0), STATE);
        due("RUN 1, what FIELD a would be", x.refused(1, 10), STATE);
        tell(x, "a>4:0;:1");
        due("RUN 1 now", x.refused(0, 0), STATE);
        due("RUN 0 now", x.refused(1, 0), 2);
    }

    // Promise 24: "Refusals, of several the first as told by each call"
    private static void refusalsOfRefused() {
        AlikeUnlike x = new AlikeUnlike();
        rows(x, 99);
        due("OUTSIDE ahead of STATE", x.refused(0, 9), OUTSIDE);
        due("UNKNOWN ahead of OUTSIDE", x.refused(1, 9), UNKNOWN);
        due("UNKNOWN ahead of STATE", x.refused(-1, 0), UNKNOWN);
        tell(x, ":0");
        due("OUTSIDE ahead of STATE", x.refused(0, 18), OUTSIDE);
        due("STATE", x.refused(0, 17), STATE);
    }

    // Promise 24: "of all PERSONS who COULD COME"
    private static void withinSpans() {
        AlikeUnlike x = withRow("a>8:1;:0", 3, 0);
        refusedDue(x, 0, 6, 9, 0, 0, 0, 0, 0, 0, 0);
        x.field(0, GREATEST, 8);
        refusedDue(x, 0, NONE);
        x = withRow("a<1:1;:0", 3, 0);
        refusedDue(x, 0, 3, 0, 0, 0, 0, 0, 0, 0, 0);
        x.field(0, LEAST, 1);
        refusedDue(x, 0, NONE);
        // A ROW beyond the SPAN of a MAY has to come into it, to the least or the greatest.
        x = withRow("a<20:1;:0", 20, 0);
        refusedDue(x, 0, 11, 9, 0, 0, 0, 0, 0, 0, 0);
        x = withRow("a>0:1;:0", 0, 0);
        x.field(0, LEAST, 7);
        refusedDue(x, 0, 7, 7, 0, 0, 0, 0, 0, 0, 0);
    }

    // Promise 24: "of all PERSONS who COULD COME"
    private static void beyondTheSpanOfNoMay() {
        AlikeUnlike x = withRow("a>4:1;:0", 3 + 10 * unit(7), 0);
        refusedDue(x, 0, NONE);
        x.field(7, GREATEST, 10);
        refusedDue(x, 0, 2, 5, 0, 0, 0, 0, 0, 0, 10);
        x.field(7, LEAST, 10);
        due("at the least", x.refused(0, 0), 2);
        x.field(7, GREATEST, 11);
        x.field(7, LEAST, 11);
        refusedDue(x, 0, NONE);
    }

    // Promise 24: "of all PERSONS who COULD COME"
    private static void withinLaws() {
        AlikeUnlike x = withRow("a>4:1;:0", 3, 0);
        lay(x, "!a=5");
        refusedDue(x, 0, 3, 6, 0, 0, 0, 0, 0, 0, 0);
        lay(x, "!a=6");
        refusedDue(x, 0, 4, 7, 0, 0, 0, 0, 0, 0, 0);
        lay(x, "b=1");
        refusedDue(x, 0, NONE);
        x.field(1, KIND, MAY);
        refusedDue(x, 0, 5, 7, 1, 0, 0, 0, 0, 0, 0);
    }

    // Promise 24: "and have other numbers in MAY FIELDS alone"
    private static void inMayFieldsAlone() {
        for (int kind = 0; kind <= 4; kind++) {
            AlikeUnlike x = withRow("h>4:1;:0", 3 * unit(7));
            x.field(7, KIND, kind);
            if (kind == MAY) {
                refusedDue(x, 0, 2, 0, 0, 0, 0, 0, 0, 0, 5);
            } else {
                refusedDue(x, 0, NONE);
            }
        }
    }

    // Promise 24: "the one of least PRICE together (steps by PRICES)"
    private static void stepsByPrices() {
        AlikeUnlike x = withRow("a+b>7:1;:0", 303, 0, 1);
        x.field(0, PRICE, 2);
        // Two steps of b, at 1 each.
        refusedDue(x, 0, 2, 3, 5, 0, 0, 0, 0, 0, 0);
        x.field(1, PRICE, 3);
        refusedDue(x, 0, 4, 5, 3, 0, 0, 0, 0, 0, 0);
        x.field(0, GREATEST, 4);
        refusedDue(x, 0, 5, 4, 4, 0, 0, 0, 0, 0, 0);
        x.field(0, PRICE, 99);
        x.field(1, PRICE, 99);
        refusedDue(x, 0, 198, 3, 5, 0, 0, 0, 0, 0, 0);
        // Steps down are steps, too.
        x = withRow("a<4:1;:0", 9, 0);
        x.field(0, PRICE, 99);
        refusedDue(x, 0, 594, 3, 0, 0, 0, 0, 0, 0, 0);
    }

    // Promise 24: "the one of least PRICE together"
    private static void theDearest() {
        AlikeUnlike x = with("a+b+c>59:1;:0");
        for (int f = 0; f < 3; f++) {
            x.field(f, KIND, MAY);
            x.field(f, PRICE, 99);
            x.field(f, GREATEST, 20);
        }
        rows(x, 0);
        refusedDue(x, 0, 3 * 20 * 99, 20, 20, 20, 0, 0, 0, 0, 0);
    }

    // Promise 24: "of like ones of least numbers, by FIELDS"
    private static void ofLeastNumbersByFields() {
        // 3 and 5 are one step off.
        refusedDue(withRow("!a=4:1;:0", 4, 0), 0, 1, 3, 0, 0, 0, 0, 0, 0, 0);
        // One step of a, d or h: a is least where d or h goes up, d is least where h does.
        refusedDue(withRow("a+d+h>3:1;:0", 1 + unit(3) + unit(7), 0, 3, 7), 0, 1, 1, 0, 0, 1, 0, 0, 0, 2);
        // One step down of a, d or h: a is least where it goes down itself.
        refusedDue(withRow("a+d+h<3:1;:0", 1 + unit(3) + unit(7), 0, 3, 7), 0, 1, 0, 0, 0, 1, 0, 0, 0, 1);
        // Two of a, one at 2 of d: a goes as low as it can.
        AlikeUnlike x = withRow("a>5|d>3:1;:0", 4 + 3 * unit(3), 0, 3);
        x.field(3, PRICE, 2);
        refusedDue(x, 0, 2, 4, 0, 0, 4, 0, 0, 0, 0);
        // Greater numbers for a lesser PRICE are ahead.
        refusedDue(withRow("a=0|a=6:1;:0", 4, 0), 0, 2, 6, 0, 0, 0, 0, 0, 0, 0);
    }

    // Promise 24: "whose RUN is 1"
    private static void whoseRunIsOne() {
        // By a=5 the first LINE refuses, by a=6 the second one lets.
        refusedDue(withRow("a=5:0;a>4:1;:0", 4, 0), 0, 2, 6, 0, 0, 0, 0, 0, 0, 0);
    }

    // ---- promise 25

    // Promise 25: "SAME FOR v in a FIELD"; "that PRICE (0, if nothing has to be other)"
    private static void nothingHasToBeOther() {
        AlikeUnlike x = withRow("a+b>7:1;:0", 303, 0);
        x.field(1, KIND, BARRED);
        due("as it is", x.sameFor(0, 1, 3), 2);
        due("as refused", x.refused(0, 0), 2);
        due("one step", x.sameFor(0, 1, 4), 1);
        due("no step", x.sameFor(0, 1, 5), 0);
        due("no step", x.sameFor(0, 1, 9), 0);
        due("five steps", x.sameFor(0, 1, 0), 5);
        // Without a MAY, too.
        x.field(0, KIND, PLAIN);
        due("no step", x.sameFor(0, 1, 5), 0);
    }

    // Promise 25: "NONE: nobody is so."
    private static void nobodyIsSoFor() {
        AlikeUnlike x = withRow("a+b>12:1;:0", 303, 0);
        x.field(1, KIND, KIN);
        due("9 and 3", x.sameFor(0, 1, 3), NONE);
        due("9 and 4", x.sameFor(0, 1, 4), 6);
        lay(x, "b<4");
        due("who COULD not COME", x.sameFor(0, 1, 4), NONE);
        x.strike();
        x.field(0, KIND, PLAIN);
        due("no MAY", x.sameFor(0, 1, 4), NONE);
    }

    // Promise 25: "UNKNOWN: row, field"
    private static void noSuchRowOrField() {
        AlikeUnlike x = withRow("a>4:1;:0", 3, 0);
        x.field(7, KIND, BARRED);
        rows(x, 1);
        due("the first ROW", x.sameFor(0, 7, 1), 2);
        due("the last ROW", x.sameFor(1, 7, 1), 4);
        for (int row : new int[] {-1, 2, 24, MIN, MAX}) {
            due("row " + row, x.sameFor(row, 7, 1), UNKNOWN);
        }
        for (int f : new int[] {-1, 8, MIN, MAX}) {
            due("field " + f, x.sameFor(0, f, 1), UNKNOWN);
        }
    }

    // Promise 25: "OUTSIDE: the FIELD COUNTS"
    private static void theFieldCounts() {
        AlikeUnlike x = withRow("a>4:1;:0", 3, 0);
        for (int kind = 0; kind <= 4; kind++) {
            x.field(7, KIND, kind);
            due("kind " + kind, x.sameFor(0, 7, 0), kind == BARRED || kind == KIN ? 2 : OUTSIDE);
        }
        due("the MAY itself", x.sameFor(0, 0, 5), OUTSIDE);
    }

    // Promise 25: "v is not within its SPAN"
    private static void withinItsSpan() {
        AlikeUnlike x = withRow("a+b>7:1;:0", 303, 0);
        x.field(1, KIND, BARRED);
        x.field(1, LEAST, 2);
        x.field(1, GREATEST, 6);
        due("below the least", x.sameFor(0, 1, 1), OUTSIDE);
        due("the least", x.sameFor(0, 1, 2), 3);
        due("the greatest", x.sameFor(0, 1, 6), 0);
        due("above the greatest", x.sameFor(0, 1, 7), OUTSIDE);
        for (int v : new int[] {-1, 21, 99, MIN, MAX}) {
            due("v " + v, x.sameFor(0, 1, v), OUTSIDE);
        }
        x.field(1, LEAST, 0);
        x.field(1, GREATEST, 20);
        due("0", x.sameFor(0, 1, 0), 5);
        due("20", x.sameFor(0, 1, 20), 0);
        due("21", x.sameFor(0, 1, 21), OUTSIDE);
        due("-1", x.sameFor(0, 1, -1), OUTSIDE);
    }

    // Promise 25: "STATE, as refused()."
    private static void stateAsRefused() {
        AlikeUnlike x = new AlikeUnlike();
        x.field(0, KIND, MAY);
        x.field(1, KIND, BARRED);
        rows(x, 303, 309, 99, 9900000000000303L, 9903);
        due("no PROGRAM", x.sameFor(0, 1, 3), STATE);
        tell(x, "a+b>7:1;:0");
        due("RUN 0", x.sameFor(0, 1, 3), 2);
        due("RUN 1", x.sameFor(1, 1, 3), STATE);
        due("RUN 1, though it would be 0", x.sameFor(1, 1, 0), STATE);
        due("RUN 2", x.sameFor(2, 1, 3), STATE);
        due("MISSING in h", x.sameFor(3, 1, 3), STATE);
        due("MISSING there itself", x.sameFor(4, 1, 3), STATE);
        tell(x, ":0");
        due("RUN 0, but MISSING there itself", x.sameFor(4, 1, 3), STATE);
    }

    // Promise 25: "Refusals, of several the first as told by each call"
    private static void refusalsOfSameFor() {
        AlikeUnlike x = new AlikeUnlike();
        x.field(1, KIND, BARRED);
        rows(x, 99);
        due("OUTSIDE ahead of STATE", x.sameFor(0, 1, 10), OUTSIDE);
        due("OUTSIDE ahead of STATE", x.sameFor(0, 0, 1), OUTSIDE);
        due("UNKNOWN ahead of OUTSIDE", x.sameFor(1, 1, 10), UNKNOWN);
        due("UNKNOWN ahead of OUTSIDE", x.sameFor(0, 8, 10), UNKNOWN);
        due("UNKNOWN ahead of STATE", x.sameFor(-1, 1, 1), UNKNOWN);
    }

    // Promise 25: "if the ROW had a told number in a FIELD that does not COUNT"
    private static void theRowStays() {
        AlikeUnlike x = withRow("a+b>7:1;:0", 303, 0);
        x.field(1, KIND, BARRED);
        long before = x.digest();
        due("for 9", x.sameFor(0, 1, 9), 0);
        due("for 0", x.sameFor(0, 1, 0), 5);
        due("digest", x.digest(), before);
        due("refused", x.refused(0, 11), 3);
        // A ROW beyond the SPAN there COULD COME with a number within.
        rows(x, 2003);
        tell(x, "a>4:1;:0");
        due("as it is", x.refused(1, 0), NONE);
        due("with 3", x.sameFor(1, 1, 3), 2);
    }
}
