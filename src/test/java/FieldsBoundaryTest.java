/** Promises 1 to 4: a test for each sentence that names a boundary case. */
public final class FieldsBoundaryTest extends Dues {
    public static void main(String[] args) throws Exception {
        runAll(FieldsBoundaryTest.class);
    }

    /** A PROGRAM, and two ROWS in groups 0 and 1 of each FIELD, so that no call has a reason to say STATE. */
    private static AlikeUnlike ready() {
        AlikeUnlike x = with("a>9:1;:0");
        rows(x, 0, 101010101010101L);
        return x;
    }

    // ---- promise 1

    // Promise 1: "Fields as told at first"
    private static void fieldsAtFirst() {
        for (int f = 0; f < 8; f++) {
            AlikeUnlike x = new AlikeUnlike();
            due("least of " + f, x.field(f, LEAST, 0), 0);
            due("greatest of " + f, x.field(f, GREATEST, 9), 9);
            due("kind of " + f, x.field(f, KIND, MAY), PLAIN);
            due("price of " + f, x.field(f, PRICE, 7), 1);
        }
    }

    // Promise 1: "no program, no laws"
    private static void noProgramAtFirst() {
        AlikeUnlike x = new AlikeUnlike();
        due("LINES", x.count(0), 0);
        due("LAWS", x.count(1), 0);
        due("numbers", x.count(4), 0);
        due("run", x.run(0, 0), STATE);
        due("strike", x.strike(), STATE);
        due("seek", x.seek(NONE, 2000), STATE);
    }

    // Promise 1: "no program, no laws"
    private static void nothingElseAtFirst() {
        AlikeUnlike x = new AlikeUnlike();
        due("ROWS", x.count(2), 0);
        due("letters", x.count(3), 0);
        due("searches", x.count(5), 0);
        due("mends", x.count(6), 0);
        due("sought", x.sought(0), STATE);
        pairDue(x, -1, -1);
    }

    // Promise 1: "Fields as told at first; no program, no laws."
    private static void eachObjectIsItsOwn() {
        AlikeUnlike other = ready();
        other.field(0, GREATEST, 20);
        lay(other, "a<1");
        other.letters('a');
        AlikeUnlike x = new AlikeUnlike();
        noProgramAtFirst();
        due("greatest", x.field(0, GREATEST, 9), 9);
        due("letters", x.count(3), 0);
        due("the other's ROWS", other.count(2), 2);
    }

    // ---- what the Terms tell of FIELDS

    // Promises 2, 3, 4, 12, 18, 19, 20, 23, 25: "FIELDS a to h (0 to 7)"
    private static void firstAndLastField() {
        AlikeUnlike x = ready();
        for (int f : new int[] {0, 7}) {
            due("field", x.field(f, KIND, BARRED), PLAIN);
            due("as", x.as(f, BARRED), f);
            due("asks", x.asks(f, 0), 0);
            due("seek", x.seek(f, 1), 1);
            due("group", x.group(f, 1, 0), 1);
            due("gap", x.gap(f, 0, 1, 1), 1);
            due("odds", x.odds(f, 0, 1, 1), 1);
            due("mend", x.mend(f, 0, 1, 2), 0);
            due("sameFor", x.sameFor(0, f, 1), NONE);
        }
    }

    // Promises 2, 3, 4, 12, 18, 19, 20, 23, 25: "UNKNOWN (a number names nothing)"
    private static void noSuchField() {
        AlikeUnlike x = ready();
        long before = x.digest();
        for (int f : new int[] {-1, 8, 9, MIN, MAX}) {
            due("field " + f, x.field(f, KIND, BARRED), UNKNOWN);
            due("as " + f, x.as(f, PLAIN), UNKNOWN);
            due("asks " + f, x.asks(f, 0), UNKNOWN);
            due("group " + f, x.group(f, 1, 0), UNKNOWN);
            due("gap " + f, x.gap(f, 0, 1, 1), UNKNOWN);
            due("odds " + f, x.odds(f, 0, 1, 1), UNKNOWN);
            due("mend " + f, x.mend(f, 0, 1, 2), UNKNOWN);
            due("sameFor " + f, x.sameFor(0, f, 1), UNKNOWN);
            if (f != NONE) {
                due("seek " + f, x.seek(f, 1), UNKNOWN);
            }
        }
        due("nothing changed", x.digest(), before);
    }

    // Promises 2, 3, 4: "of KINDS: 0 FIELD, 1 BARRED, 2 KIN, 3 MAY, 4 MADE (FIELD at first)"
    private static void firstAndLastKind() {
        AlikeUnlike x = new AlikeUnlike();
        due("MADE", x.field(3, KIND, MADE), PLAIN);
        due("as MADE", x.as(3, MADE), 3);
        due("FIELD", x.field(3, KIND, PLAIN), MADE);
        due("as FIELD", x.as(3, PLAIN), 3);
        due("as MADE", x.as(3, MADE), NONE);
    }

    // Promise 2: "3 MAY at most"
    private static void threeMay() {
        AlikeUnlike x = new AlikeUnlike();
        for (int f = 5; f < 8; f++) {
            due("MAY " + f, x.field(f, KIND, MAY), PLAIN);
        }
        for (int f = 0; f < 5; f++) {
            due("MAY " + f, x.field(f, KIND, MAY), STATE);
            due("it CHANGES", x.asks(f, 1), 0);
        }
    }

    // Promises 2, 11: "A SPAN from least to greatest (0 to 20; 0 to 9 at first)"
    private static void spanFromNoughtToTwenty() {
        AlikeUnlike x = new AlikeUnlike();
        due("9 at first", x.run(9, 2), 1);
        due("10 at first", x.run(10, 2), 0);
        due("greatest 21", x.field(0, GREATEST, 21), OUTSIDE);
        due("greatest 20", x.field(0, GREATEST, 20), 9);
        due("20", x.run(20, 2), 1);
        due("least -1", x.field(0, LEAST, -1), OUTSIDE);
        due("0", x.run(0, 2), 1);
        due("least 20", x.field(0, LEAST, 20), 0);
        due("19", x.run(19, 2), 0);
        due("least 21", x.field(0, LEAST, 21), OUTSIDE);
        due("least 0", x.field(0, LEAST, 0), 20);
        due("greatest 0", x.field(0, GREATEST, 0), 20);
        due("greatest -1", x.field(0, GREATEST, -1), OUTSIDE);
        due("0", x.run(0, 2), 1);
        due("1", x.run(1, 2), 0);
    }

    // Promises 4, 12, 21, 25: "COUNTS: a FIELD, MAY, MADE; BARRED and KIN do not."
    private static void whichCount() {
        AlikeUnlike x = new AlikeUnlike();
        for (int kind = 0; kind <= 4; kind++) {
            x.field(6, KIND, kind);
            due("COUNTS of kind " + kind, x.asks(6, 0), kind == BARRED || kind == KIN ? 0 : 1);
        }
    }

    // Promises 2, 4, 24: "CHANGES: MAY alone, at a PRICE (1 to 99; 1 at first) for each step."
    private static void whichChange() {
        AlikeUnlike x = new AlikeUnlike();
        for (int kind = 0; kind <= 4; kind++) {
            x.field(6, KIND, kind);
            due("CHANGES of kind " + kind, x.asks(6, 1), kind == MAY ? 1 : 0);
        }
        x.field(6, KIND, MAY);
        due("100", x.field(6, PRICE, 100), OUTSIDE);
        due("0", x.field(6, PRICE, 0), OUTSIDE);
        due("-1", x.field(6, PRICE, -1), OUTSIDE);
        due("99", x.field(6, PRICE, 99), 1);
        due("1", x.field(6, PRICE, 1), 99);
        due("1 again", x.field(6, PRICE, 1), 1);
    }

    // ---- promise 2

    // Promise 2: "KIND (what = 0), least (1), greatest (2) of SPAN, PRICE (3) of a FIELD becomes v: what it was."
    private static void whatItWas() {
        AlikeUnlike x = new AlikeUnlike();
        int[][] calls = {{KIND, MAY, PLAIN}, {KIND, MAY, MAY}, {LEAST, 9, 0}, {LEAST, 3, 9}, {GREATEST, 3, 9}, {GREATEST, 20, 3},
            {PRICE, 99, 1}, {PRICE, 2, 99}, {KIND, KIN, MAY}, {KIND, MADE, KIN}, {KIND, BARRED, MADE}, {KIND, PLAIN, BARRED},
            {GREATEST, 4, 20}, {LEAST, 0, 3}};
        for (int[] call : calls) {
            due("field(7, " + call[0] + ", " + call[1] + ")", x.field(7, call[0], call[1]), call[2]);
        }
        due("another FIELD's greatest", x.field(6, GREATEST, 9), 9);
        due("another FIELD's kind", x.field(6, KIND, PLAIN), PLAIN);
    }

    // Promise 2: "UNKNOWN: field, what"
    private static void noSuchWhat() {
        AlikeUnlike x = new AlikeUnlike();
        for (int what : new int[] {-1, 4, MIN, MAX}) {
            due("what " + what, x.field(0, what, 0), UNKNOWN);
            due("what " + what + ", v too", x.field(0, what, 100), UNKNOWN);
            due("what " + what + ", field too", x.field(-1, what, 0), UNKNOWN);
        }
    }

    // Promise 2: "OUTSIDE (also least above greatest)"
    private static void leastAboveGreatest() {
        AlikeUnlike x = new AlikeUnlike();
        due("least 10", x.field(2, LEAST, 10), OUTSIDE);
        due("least 9", x.field(2, LEAST, 9), 0);
        due("greatest 8", x.field(2, GREATEST, 8), OUTSIDE);
        due("greatest 9", x.field(2, GREATEST, 9), 9);
        due("greatest 10", x.field(2, GREATEST, 10), 9);
        due("least 11", x.field(2, LEAST, 11), OUTSIDE);
        due("least 10", x.field(2, LEAST, 10), 9);
        due("another FIELD's bounds are its own", x.field(1, LEAST, 9), 0);
    }

    // Promise 2: "OUTSIDE (also least above greatest)"
    private static void outsideOfEachWhat() {
        AlikeUnlike x = new AlikeUnlike();
        x.field(0, KIND, MAY);
        int[][] bounds = {{KIND, 0, 4}, {LEAST, 0, 9}, {GREATEST, 0, 20}, {PRICE, 1, 99}};
        for (int[] bound : bounds) {
            for (int v : new int[] {bound[1] - 1, bound[2] + 1, MIN, MAX}) {
                due("field(0, " + bound[0] + ", " + v + ")", x.field(0, bound[0], v), OUTSIDE);
            }
        }
    }

    // Promise 2: "STATE: KIND MAY, and 3 other ones are already"
    private static void threeOtherOnes() {
        AlikeUnlike x = new AlikeUnlike();
        for (int f = 0; f < 3; f++) {
            due("MAY " + f, x.field(f, KIND, MAY), PLAIN);
        }
        due("one of the three again", x.field(0, KIND, MAY), MAY);
        due("the last of the three again", x.field(2, KIND, MAY), MAY);
        due("a fourth", x.field(7, KIND, MAY), STATE);
        due("a fourth as another kind", x.field(7, KIND, MADE), PLAIN);
        due("a fourth still", x.field(7, KIND, MAY), STATE);
        due("one is no MAY more", x.field(1, KIND, KIN), MAY);
        due("now it is the third", x.field(7, KIND, MAY), MADE);
        due("the one before is a fourth now", x.field(1, KIND, MAY), STATE);
    }

    // Promise 2: "PRICE, and it is no MAY"
    private static void priceOfNoMay() {
        AlikeUnlike x = new AlikeUnlike();
        for (int kind = 0; kind <= 4; kind++) {
            x.field(4, KIND, kind);
            due("PRICE of kind " + kind, x.field(4, PRICE, 1), kind == MAY ? 1 : STATE);
        }
    }

    // Promise 2: "Refusals, of several the first as told by each call"
    private static void refusalsOfField() {
        AlikeUnlike x = new AlikeUnlike();
        for (int f = 0; f < 3; f++) {
            x.field(f, KIND, MAY);
        }
        long before = x.digest();
        due("UNKNOWN ahead of OUTSIDE", x.field(8, KIND, 5), UNKNOWN);
        due("UNKNOWN ahead of OUTSIDE", x.field(0, 4, -1), UNKNOWN);
        due("UNKNOWN ahead of STATE", x.field(8, KIND, MAY), UNKNOWN);
        due("UNKNOWN ahead of STATE", x.field(-1, PRICE, 1), UNKNOWN);
        due("OUTSIDE ahead of STATE", x.field(3, PRICE, 100), OUTSIDE);
        due("OUTSIDE ahead of STATE", x.field(3, PRICE, 0), OUTSIDE);
        due("STATE", x.field(3, PRICE, 99), STATE);
        due("STATE", x.field(3, KIND, MAY), STATE);
        due("nothing changed", x.digest(), before);
    }

    // ---- promise 3

    // Promise 3: "A FIELD taken as a KIND: its number; NONE: it is none such (the cast fails)."
    private static void castsOfEachKind() {
        AlikeUnlike x = new AlikeUnlike();
        String[] is = {"10000", "11000", "11100", "10010", "10001"};
        for (int own = 0; own <= 4; own++) {
            x.field(7, KIND, own);
            x.field(0, KIND, own);
            for (int kind = 0; kind <= 4; kind++) {
                boolean holds = is[own].charAt(kind) == '1';
                due("kind " + own + " as " + kind, x.as(7, kind), holds ? 7 : NONE);
                due("kind " + own + " as " + kind, x.as(0, kind), holds ? 0 : NONE);
            }
        }
    }

    // Promises 3, 4: "KIN are BARRED, too; all are FIELDS"
    private static void kinAreBarred() {
        AlikeUnlike x = new AlikeUnlike();
        x.field(1, KIND, KIN);
        x.field(2, KIND, BARRED);
        due("KIN as BARRED", x.as(1, BARRED), 1);
        due("KIN as FIELD", x.as(1, PLAIN), 1);
        due("BARRED as KIN", x.as(2, KIN), NONE);
        due("KIN COUNTS", x.asks(1, 0), 0);
    }

    // Promise 3: "UNKNOWN; OUTSIDE."
    private static void refusalsOfAs() {
        AlikeUnlike x = new AlikeUnlike();
        for (int kind : new int[] {-1, 5, MIN, MAX}) {
            due("kind " + kind, x.as(0, kind), OUTSIDE);
            due("UNKNOWN is ahead", x.as(8, kind), UNKNOWN);
        }
    }

    // ---- promise 4

    // Promise 4: "Whether a FIELD COUNTS (what = 0), CHANGES (1): 1, 0."
    private static void asksOfEachKind() {
        AlikeUnlike x = new AlikeUnlike();
        int[][] due = {{1, 0}, {0, 0}, {0, 0}, {1, 1}, {1, 0}};
        for (int kind = 0; kind <= 4; kind++) {
            x.field(5, KIND, kind);
            due("asks(5, 0) of kind " + kind, x.asks(5, 0), due[kind][0]);
            due("asks(5, 1) of kind " + kind, x.asks(5, 1), due[kind][1]);
            due("another FIELD", x.asks(4, 0), 1);
        }
    }

    // Promise 4: "UNKNOWN; OUTSIDE."
    private static void refusalsOfAsks() {
        AlikeUnlike x = new AlikeUnlike();
        for (int what : new int[] {-1, 2, MIN, MAX}) {
            due("what " + what, x.asks(0, what), OUTSIDE);
            due("UNKNOWN is ahead", x.asks(-1, what), UNKNOWN);
        }
    }
}
