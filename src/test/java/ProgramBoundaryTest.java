/** Promises 5 to 11: a test for each sentence that names a boundary case. */
public final class ProgramBoundaryTest extends Dues {
    private static final int PROGRAM = 0, LAW = 1;

    public static void main(String[] args) throws Exception {
        runAll(ProgramBoundaryTest.class);
    }

    private static void faultDue(String text, int sort, int place) {
        AlikeUnlike x = new AlikeUnlike();
        put(x, text);
        due("fault(" + sort + ") of " + text, x.fault(sort), place);
    }

    private static void faultsDue(String text, int ofProgram, int ofLaw) {
        faultDue(text, PROGRAM, ofProgram);
        faultDue(text, LAW, ofLaw);
    }

    /** What RUN of a PERSON comes to, and which LINE ends it. */
    private static void runDue(String program, long person, int end, int line) {
        AlikeUnlike x = with(program);
        due(program + " on " + person, x.run(person, 0), end);
        due("LINE of " + program + " on " + person, x.run(person, 1), line);
    }

    /** Whether a CONDITION holds for a PERSON (1, 0), or the host refuses (2). */
    private static void holdsDue(String condition, long person, int truth) {
        due(condition + " for " + person, with(condition + ":1;:0").run(person, 0), truth);
    }

    // ---- promise 5

    // Promise 5: "Letters come behind THE PAGE, up to eight"
    private static void upToEight() {
        AlikeUnlike x = new AlikeUnlike();
        String text = ":1a<1:1;";
        for (int n = 0; n <= 8; n++) {
            x.blank();
            due(n + " letters", x.letters(word(text.substring(0, n))), n);
        }
        due("eight more", x.letters(word("99999999")), 16);
        due("one more", x.letters('9'), 17);
    }

    // Promise 5: "told by their codes in the bytes of w, the lowest byte first"
    private static void lowestByteFirst() {
        AlikeUnlike x = new AlikeUnlike();
        // The bytes are a < 9 : 1 ; : 0, from the lowest one on.
        due("eight", x.letters(0x303a3b313a393c61L), 8);
        due("it is a PROGRAM", x.program(), 2);
        due("8 is let", x.run(8, 0), 1);
        due("9 is refused", x.run(9, 0), 0);
        due("two calls", x.letters(word("b>1:")) + x.letters(word("0;:1")), 4 + 8);
        due("behind what was there", x.program(), 2);
        due("by b", x.run(200, 0), 0);
    }

    // Promise 5: "until a byte that is 0: how many THE PAGE has."
    private static void untilANought() {
        AlikeUnlike x = new AlikeUnlike();
        due("no letter", x.letters(0), 0);
        due("one letter", x.letters(0x61), 1);
        due("seven letters", x.letters(0x0061616161616161L), 8);
        due("no letter", x.letters(0), 8);
    }

    // Promise 5: "OUTSIDE: a byte above 126"
    private static void byteAbove() {
        AlikeUnlike x = new AlikeUnlike();
        for (int place = 0; place < 8; place++) {
            long ahead = place == 0 ? 0 : 0x0101010101010101L >>> 8 * (8 - place);
            for (int code : new int[] {127, 128, 129, 254, 255}) {
                due(code + " at " + place, x.letters(ahead | (long) code << 8 * place), OUTSIDE);
            }
            due("nothing came", x.count(3), 0);
            due("126 at " + place, x.letters(ahead | 126L << 8 * place), place + 1);
            due("blank", x.blank(), place + 1);
        }
        due("all ones", x.letters(-1L), OUTSIDE);
        due("the least long", x.letters(Long.MIN_VALUE), OUTSIDE);
        due("the greatest long", x.letters(Long.MAX_VALUE), OUTSIDE);
        due("eight of 126", x.letters(0x7e7e7e7e7e7e7e7eL), 8);
    }

    // Promise 5: "or one behind a 0 that is not 0"
    private static void byteBehindANought() {
        AlikeUnlike x = new AlikeUnlike();
        for (int nought = 0; nought < 7; nought++) {
            long ahead = nought == 0 ? 0 : 0x6161616161616161L >>> 8 * (8 - nought);
            for (int place = nought + 1; place < 8; place++) {
                due("0 at " + nought + ", a at " + place, x.letters(ahead | 0x61L << 8 * place), OUTSIDE);
                due("0 at " + nought + ", 1 at " + place, x.letters(ahead | 1L << 8 * place), OUTSIDE);
            }
        }
        due("nothing came", x.count(3), 0);
    }

    // Promise 5: "FULL: above 80."
    private static void aboveEighty() {
        AlikeUnlike x = new AlikeUnlike();
        for (int i = 1; i <= 9; i++) {
            due("letters", x.letters(word("aaaaaaaa")), 8 * i);
        }
        due("seven more", x.letters(word("aaaaaaa")), 79);
        due("two more", x.letters(word("bb")), FULL);
        due("eight more", x.letters(word("bbbbbbbb")), FULL);
        due("none came", x.count(3), 79);
        due("one more", x.letters('a'), 80);
        due("one above", x.letters('b'), FULL);
        due("none above", x.letters(0), 80);
        due("blank", x.blank(), 80);
        due("from the beginning", x.letters('b'), 1);
    }

    // Promise 5: "Refusals, of several the first as told by each call"
    private static void outsideAheadOfFull() {
        AlikeUnlike x = new AlikeUnlike();
        put(x, times("(", 80));
        due("above 126", x.letters(127), OUTSIDE);
        due("behind a 0", x.letters(0x6100), OUTSIDE);
        due("FULL", x.letters('('), FULL);
        due("THE PAGE stays", x.fault(LAW), 80);
    }

    // ---- promise 6

    // Promise 6: "THE PAGE is empty: how many letters it had."
    private static void blankOfEmptyAndFull() {
        AlikeUnlike x = new AlikeUnlike();
        due("empty", x.blank(), 0);
        put(x, times("a", 80));
        due("full", x.blank(), 80);
        due("empty again", x.blank(), 0);
        due("letters", x.count(3), 0);
        due("fault", x.fault(PROGRAM), 0);
        due("no PROGRAM", x.program(), STATE);
    }

    // ---- promise 7

    // Promise 7: "The place (from 0) of the first letter of THE PAGE that no PROGRAM (sort 0), LAW (1) (of any length) has there, behind those ahead of it"
    private static void firstLetterIsAFault() {
        for (String wrong : new String[] {";", "&", "|", ")", "<", "=", ">", "+", "-", "*", "i", "`", "A", "/", " ", "~", "\001"}) {
            faultsDue(wrong, 0, 0);
        }
        faultsDue(":", 1, 0);
        faultsDue("i<i", 0, 0);
    }

    // Promise 7: "(of any length)"
    private static void aFullPageMayGoOn() {
        for (String text : new String[] {times("(", 80), times("!", 80), times("a=a|", 20), times("(!", 40), times("a-b*", 20)}) {
            faultsDue(text, 80, 80);
        }
        // The bracket of the last letter cannot be closed on this PAGE: but in a longer LAW.
        faultsDue(times("a=1&", 19) + "((((", 80, 80);
        faultsDue(times("a=a:0;", 13) + "b:", 79, 3);
    }

    // Promise 7: "how many letters it has, if there is none"
    private static void noFault() {
        faultsDue("", 0, 0);
        faultsDue("a", 1, 1);
        faultsDue("a<1", 3, 3);
        faultsDue(":", 1, 0);
        faultsDue(":0", 2, 0);
        faultsDue(times("a=a:0;", 13) + ":1", 80, 3);
    }

    // Promise 7: "OUTSIDE."
    private static void sortOutside() {
        AlikeUnlike x = new AlikeUnlike();
        put(x, "a<1");
        for (int sort : new int[] {-1, 2, MIN, MAX}) {
            due("sort " + sort, x.fault(sort), OUTSIDE);
        }
        due("THE PAGE stays", x.count(3), 3);
    }

    // Promises 7, 8, 9: "UNIT: one or two digits, or a letter a to h"
    private static void oneOrTwoDigits() {
        faultsDue("1<12", 4, 4);
        faultsDue("12<1", 4, 4);
        faultsDue("123<1", 2, 2);
        faultsDue("1<123", 4, 4);
        faultsDue("000", 2, 2);
        faultsDue("0+12*345", 7, 7);
        faultsDue("a1", 1, 1);
        faultsDue("1a", 1, 1);
        faultsDue("12a", 2, 2);
        faultsDue("ab", 1, 1);
    }

    // Promises 7, 8, 9: "UNIT: one or two digits, or a letter a to h"
    private static void lettersAndDigitsAtTheirEnds() {
        faultsDue("a<h", 3, 3);
        faultsDue("h<a", 3, 3);
        faultsDue("0<9", 3, 3);
        faultsDue("90<09", 5, 5);
        // Behind "<" the signs next to the letters and digits: ` i / :
        for (String wrong : new String[] {"`", "i", "/", ":", "A", "H"}) {
            faultsDue("1<" + wrong, 2, 2);
        }
        faultsDue("1<1/", 3, 3);
        faultsDue("1<1`", 3, 3);
    }

    // Promises 7, 8, 9: "PRODUCT: one to three UNITS with "*" between"
    private static void oneToThreeUnits() {
        faultsDue("a<1", 3, 3);
        faultsDue("a*b*c<1", 7, 7);
        faultsDue("a*b*c*", 5, 5);
        faultsDue("a<b*c*d", 7, 7);
        faultsDue("a<b*c*d*", 7, 7);
        faultsDue("a*b*c<d*e*f*", 11, 11);
        faultsDue("1*2*3+4*5*6-7*8*9*", 17, 17);
        faultsDue("12*34*56*", 8, 8);
        faultsDue("a*b*c<1&d*e*f*", 13, 13);
        faultsDue("(a*b*c<1)|d*e*f*", 15, 15);
        faultsDue("a**", 2, 2);
        faultsDue("*a", 0, 0);
        faultsDue("a*<", 2, 2);
    }

    // Promises 7, 8, 9: "SUM: PRODUCTS with "+" or "-" between"
    private static void sumOfProducts() {
        faultsDue(times("a+", 39) + "a<", 80, 80);
        faultsDue("+a", 0, 0);
        faultsDue("-a", 0, 0);
        faultsDue("a+-", 2, 2);
        faultsDue("a-<", 2, 2);
        faultsDue("a<+", 2, 2);
        faultsDue("a<1+:", 4, 4);
    }

    // Promises 7, 8, 9: "or a SUM, "<", "=" or ">", a SUM"
    private static void comparedOnce() {
        faultsDue("a<b<", 3, 3);
        faultsDue("a=b>", 3, 3);
        faultsDue("a<=", 2, 2);
        faultsDue("a>=", 2, 2);
        faultsDue("a==", 2, 2);
        faultsDue("a<>", 2, 2);
        // The signs next to < and > are ; and ?
        faultsDue("a;", 1, 1);
        faultsDue("a?", 1, 1);
        faultsDue("a&", 1, 1);
        faultsDue("a|", 1, 1);
        faultsDue("a)", 1, 1);
        faultsDue("a:", 1, 1);
        faultsDue("(a)", 2, 2);
        faultsDue("!a&", 2, 2);
    }

    // Promises 7, 8, 9: "FACTOR: "!" and a FACTOR, "(" CONDITION ")""
    private static void bracketsAndNot() {
        faultsDue("(a=1)", 5, 5);
        faultsDue("(a=1))", 5, 5);
        faultsDue("a=1)", 3, 3);
        faultsDue("((a=1)))", 7, 7);
        faultsDue("()", 1, 1);
        faultsDue("(a=1(", 4, 4);
        faultsDue("(a=1)(", 5, 5);
        faultsDue("(a=1)a", 5, 5);
        faultsDue("(a=1)1", 5, 5);
        faultsDue("(a=1)!", 5, 5);
        faultsDue("(a=1)<", 5, 5);
        faultsDue("(a=1)+", 5, 5);
        faultsDue("!!a=1", 5, 5);
        faultsDue("!(!a=1)", 7, 7);
        faultsDue("!)", 1, 1);
        faultsDue("!&", 1, 1);
        faultsDue("a!", 1, 1);
        faultsDue("a=!", 2, 2);
        faultsDue("a=(", 2, 2);
        faultsDue("(!:", 2, 2);
    }

    // Promises 7, 8, 9: "TERMS with "|" between"; "FACTORS with "&" between"
    private static void termsAndFactors() {
        faultsDue("a=1|", 4, 4);
        faultsDue("a=1||", 4, 4);
        faultsDue("a=1&&", 4, 4);
        faultsDue("a=1|&", 4, 4);
        faultsDue("a=1|)", 4, 4);
        faultsDue("(a=1&)", 5, 5);
        faultsDue("(a=1|b=2)&c=3", 13, 13);
        faultsDue("a=1&:", 4, 4);
    }

    // Promises 7, 8: "LINES "CONDITION:END" with ";" behind each, and at last ":END""
    private static void linesAndTheLastEnd() {
        faultDue("a=1:0;b=1:1;:1", PROGRAM, 14);
        faultDue("a=1:0:", PROGRAM, 5);
        faultDue("a=1:0b", PROGRAM, 5);
        faultDue("a=1:00", PROGRAM, 5);
        faultDue("a=1;", PROGRAM, 3);
        faultDue("a=1:;", PROGRAM, 4);
        faultDue("a=1::", PROGRAM, 4);
        faultDue("a=1:0;;", PROGRAM, 6);
        faultDue("a=1:0;)", PROGRAM, 6);
        faultDue("(a=1:", PROGRAM, 4);
        faultDue(":1;", PROGRAM, 2);
        faultDue(":1:", PROGRAM, 2);
        faultDue(":1a", PROGRAM, 2);
        faultDue(":11", PROGRAM, 2);
        faultDue("a=1:0;:1;", PROGRAM, 8);
        faultDue("(:", PROGRAM, 1);
        faultDue("!:", PROGRAM, 1);
    }

    // Promises 7, 8: "END is 0 (refused) or 1 (let)"
    private static void endIsNoughtOrOne() {
        for (String wrong : new String[] {"/", "2", "9", "a", ":", ";", "-", "("}) {
            faultDue(":" + wrong, PROGRAM, 1);
            faultDue("a=1:" + wrong, PROGRAM, 4);
        }
        for (String right : new String[] {"0", "1"}) {
            faultDue(":" + right, PROGRAM, 2);
            faultDue("a=1:" + right, PROGRAM, 5);
        }
    }

    // Promises 7, 9: "LAWS (6 at most, numbered) are CONDITIONS"
    private static void aLawHasNoEnd() {
        faultDue("a=1:", LAW, 3);
        faultDue("(a=1):", LAW, 5);
        faultDue("a=1;", LAW, 3);
        faultDue("a=1|b=1|c=1", LAW, 11);
    }

    // ---- promise 8

    // Promise 8: "how many LINES it has (the last one, too)"
    private static void fewestAndMostLines() {
        AlikeUnlike x = new AlikeUnlike();
        put(x, ":0");
        due("the last one alone", x.program(), 1);
        due("run", x.run(0, 0), 0);
        due("its LINE", x.run(0, 1), 0);
        StringBuilder text = new StringBuilder();
        for (int i = 0; i < 13; i++) {
            text.append("a=").append((char) (i % 10 + '0')).append(':').append(i / 10).append(';');
        }
        put(x, text.append(":0").toString());
        due("fourteen on a full page", x.program(), 14);
        due("counted", x.count(0), 14);
        due("the tenth", x.run(9, 1), 9);
        due("the last", x.run(10, 1), 13);
    }

    // Promise 8: "THE PAGE is read as THE PROGRAM (another one is gone)"
    private static void anotherIsGone() {
        AlikeUnlike x = with("a<1:1;b<1:1;17<c:1;:0");
        due("LINES", x.count(0), 4);
        due("numbers", x.count(4), 3);
        tell(x, ":1");
        due("LINES", x.count(0), 1);
        due("numbers", x.count(4), 0);
        due("run", x.run(9999999999999999L, 0), 1);
        tell(x, "12=a:0;:1");
        due("numbers", x.count(4), 1);
        due("12 is refused", x.run(12, 0), 0);
        due("1 is let", x.run(1, 0), 1);
    }

    // Promises 8, 9: "THE PAGE is empty then."
    private static void thePageIsEmpty() {
        AlikeUnlike x = new AlikeUnlike();
        put(x, "a<1:1;:0");
        x.program();
        due("letters", x.count(3), 0);
        put(x, "a<1");
        x.law();
        due("letters", x.count(3), 0);
        due("from the beginning", x.letters(':'), 1);
    }

    // Promise 8: "STATE: it is none."
    private static void noProgram() {
        AlikeUnlike x = with("a=7:1;:0");
        String whole = "(a<1):0;b<1|c=2:1;:1";
        for (int n = 0; n < whole.length(); n++) {
            put(x, whole.substring(0, n));
            due("program " + whole.substring(0, n), x.program(), STATE);
            due("THE PAGE stays", x.count(3), n);
        }
        for (String text : new String[] {whole + ";", whole + "1", " " + whole, "a=1", ":2", "a=1:0;b:1", times("!", 80), times("a=a:0;", 13) + ":"}) {
            put(x, text);
            due("program " + text, x.program(), STATE);
            due("THE PAGE stays", x.count(3), text.length());
        }
        due("THE PROGRAM stays", x.run(7, 0), 1);
        due("THE PROGRAM stays", x.run(6, 0), 0);
        due("LINES", x.count(0), 2);
    }

    // Promise 8: "THE PAGE is read as THE PROGRAM"
    private static void programsOfAFullPage() {
        String[] conditions = {times("(", 36) + "a=1" + times(")", 36), times("!", 72) + "a=1", times("a=9|", 18) + "a=1",
            times("!(", 24) + "a=1" + times(")", 24), "a=1" + times("&a=1", 18), "a" + times("+0", 34) + "-00=1"};
        for (String condition : conditions) {
            AlikeUnlike x = with(condition + ":1;:0");
            due(condition + " for 1", x.run(1, 0), 1);
            due(condition + " for 0", x.run(0, 0), 0);
        }
        AlikeUnlike x = with(times("!", 71) + "a=1:1;:0");
        due("an odd number of ! for 1", x.run(1, 0), 0);
        due("an odd number of ! for 0", x.run(0, 0), 1);
    }

    // ---- promise 9

    // Promise 9: "THE PAGE is read as a LAW: its number"
    private static void lawsAreNumbered() {
        AlikeUnlike x = new AlikeUnlike();
        for (int i = 0; i < 6; i++) {
            put(x, "a<9");
            due("law", x.law(), i);
        }
        due("LAWS", x.count(1), 6);
    }

    // Promise 9: "STATE: it is none; FULL."
    private static void sixAtMost() {
        AlikeUnlike x = new AlikeUnlike();
        for (int i = 0; i < 6; i++) {
            lay(x, "!a=" + i);
        }
        put(x, "a<0");
        due("a seventh", x.law(), FULL);
        due("THE PAGE stays", x.count(3), 3);
        due("6 COULD COME", x.run(6, 2), 1);
        for (int i = 0; i < 6; i++) {
            due("by LAW " + i, x.run(i, 2), 0);
        }
        due("strike", x.strike(), 5);
        due("the seventh is LAW 5 now", x.law(), 5);
        due("6 COULD COME", x.run(6, 2), 0);
    }

    // Promise 9: "STATE: it is none"
    private static void noLaw() {
        AlikeUnlike x = new AlikeUnlike();
        String whole = "!(a<1|b=2)&12>c";
        for (int n = 0; n < whole.length(); n++) {
            put(x, whole.substring(0, n));
            boolean isOne = n == 10;
            due("law " + whole.substring(0, n), x.law(), isOne ? 0 : STATE);
            due("THE PAGE", x.count(3), isOne ? 0 : n);
        }
        for (String text : new String[] {":1", "a<1:1;:0", whole + ")", whole + ":", "(" + whole, times("(", 80)}) {
            put(x, text);
            due("law " + text, x.law(), STATE);
            due("THE PAGE stays", x.count(3), text.length());
        }
        due("LAWS", x.count(1), 1);
    }

    // Promise 9: "Refusals, of several the first as told by each call"
    private static void stateAheadOfFull() {
        AlikeUnlike x = new AlikeUnlike();
        for (int i = 0; i < 6; i++) {
            lay(x, "a=a");
        }
        due("empty", x.law(), STATE);
        put(x, "a=");
        due("unfinished", x.law(), STATE);
        put(x, "a=a");
        due("full", x.law(), FULL);
    }

    // Promise 9: "THE PAGE is read as a LAW"
    private static void lawOfAFullPage() {
        AlikeUnlike x = new AlikeUnlike();
        lay(x, times("a=1|", 19) + "a=02");
        due("2", x.run(2, 2), 1);
        due("3", x.run(3, 2), 0);
    }

    // ---- promise 10

    // Promise 10: "The last LAW is gone: how many are left."
    private static void theLastIsGone() {
        AlikeUnlike x = new AlikeUnlike();
        for (int i = 0; i < 6; i++) {
            lay(x, "!a=" + i);
        }
        for (int left = 5; left >= 0; left--) {
            due("strike", x.strike(), left);
            due("LAWS", x.count(1), left);
            due("the last is gone", x.run(left, 2), 1);
            for (int i = 0; i < left; i++) {
                due("those ahead stay", x.run(i, 2), 0);
            }
        }
    }

    // Promise 10: "STATE: there is none."
    private static void noLawToStrike() {
        AlikeUnlike x = new AlikeUnlike();
        due("strike", x.strike(), STATE);
        lay(x, "a<1");
        due("strike", x.strike(), 0);
        due("strike", x.strike(), STATE);
        due("LAWS", x.count(1), 0);
        put(x, "a<1");
        due("the next is LAW 0", x.law(), 0);
    }

    // ---- promise 11

    // Promise 11: "A PERSON's numbers, told by figures of base 100 (FIELD a's lowest; 99: MISSING)"
    private static void figuresOfAPerson() {
        for (int f = 0; f < 8; f++) {
            AlikeUnlike x = with((char) ('a' + f) + "=7:1;:0");
            due("7 in " + f, x.run(7 * unit(f), 0), 1);
            due("8 in " + f, x.run(8 * unit(f), 0), 0);
            due("7 in all others", x.run(707070707070707L - 7 * unit(f), 0), 0);
            due("MISSING in " + f, x.run(99 * unit(f), 0), 2);
            due("MISSING in all others", x.run(9999999999999999L - 92 * unit(f), 0), 1);
        }
    }

    // Promise 11: "OUTSIDE: person (a figure of 21 to 98, or above 9999999999999999, or below 0), what"
    private static void figuresOutside() {
        AlikeUnlike x = with(":1");
        for (int f = 0; f < 8; f++) {
            for (int figure = 0; figure <= 99; figure++) {
                due(figure + " in " + f, x.run(figure * unit(f), 0), figure <= 20 || figure == 99 ? 1 : OUTSIDE);
            }
        }
    }

    // Promise 11: "or above 9999999999999999, or below 0"
    private static void personsOutside() {
        AlikeUnlike x = with(":1");
        due("the greatest", x.run(9999999999999999L, 0), 1);
        due("one above", x.run(10000000000000000L, 0), OUTSIDE);
        due("one figure above", x.run(100000000000000000L, 0), OUTSIDE);
        due("the greatest long", x.run(Long.MAX_VALUE, 0), OUTSIDE);
        due("0", x.run(0, 0), 1);
        due("-1", x.run(-1, 0), OUTSIDE);
        due("-100", x.run(-100, 0), OUTSIDE);
        due("-10^16", x.run(-10000000000000000L, 0), OUTSIDE);
        due("the least long", x.run(Long.MIN_VALUE, 0), OUTSIDE);
        // As an int this would be 0.
        due("2^32", x.run(1L << 32, 0), OUTSIDE);
        due("2^62", x.run(1L << 62, 0), OUTSIDE);
    }

    // Promise 11: "OUTSIDE: person (a figure of 21 to 98, or above 9999999999999999, or below 0), what"
    private static void whatOutside() {
        AlikeUnlike x = with(":1");
        for (int what : new int[] {-1, 3, MIN, MAX}) {
            due("what " + what, x.run(0, what), OUTSIDE);
        }
        due("what 0", x.run(0, 0), 1);
        due("what 2", x.run(0, 2), 1);
    }

    // Promise 11: "STATE: there is no PROGRAM (what 0, 1)."
    private static void runWithoutAProgram() {
        AlikeUnlike x = new AlikeUnlike();
        due("what 0", x.run(0, 0), STATE);
        due("what 1", x.run(0, 1), STATE);
        due("what 2", x.run(0, 2), 1);
        due("what 2", x.run(99, 2), 0);
        due("OUTSIDE is ahead", x.run(-1, 0), OUTSIDE);
        due("OUTSIDE is ahead", x.run(21, 1), OUTSIDE);
        due("OUTSIDE is ahead", x.run(0, 3), OUTSIDE);
    }

    // Promise 11: "1 which LINE ends it (from 0; NONE: the host does)"
    private static void whichLine() {
        runDue(":0", 0, 0, 0);
        runDue("a=0:1;:0", 0, 1, 0);
        runDue("a=1:1;a=2:0;a=3:1;:0", 1, 1, 0);
        runDue("a=1:1;a=2:0;a=3:1;:0", 2, 0, 1);
        runDue("a=1:1;a=2:0;a=3:1;:0", 3, 1, 2);
        runDue("a=1:1;a=2:0;a=3:1;:0", 4, 0, 3);
        runDue("a=1:1;a=2:0;a=3:1;:0", 99, 2, NONE);
    }

    // Promise 11: "RUN on a PERSON: the END of the first LINE whose CONDITION holds, else the last one."
    private static void theFirstThatHolds() {
        runDue("a=1:1;a=1:0;:0", 1, 1, 0);
        runDue("a=1:0;a<2:1;:0", 1, 0, 0);
        runDue("a=1:0;a<2:1;:0", 0, 1, 1);
        runDue("a=1:0;a<2:0;:1", 2, 1, 2);
    }

    // Promise 11: "What is MISSING and is read, ends the RUN: 2 (the host refuses)."
    private static void missingAndRead() {
        runDue("a=1:1;b=1:1;:0", 99, 2, NONE);
        runDue("a=1:1;b=1:1;:0", 9900, 2, NONE);
        runDue("a=1:1;b=1:1;:0", 9901, 1, 0);
        runDue("a=1:1;b=1:1;:0", 990000, 0, 2);
        for (String reads : new String[] {"a=b", "b=a", "0*a=0", "a*0=0", "1<a+1", "a-a=0", "9-b*a<0", "1*2*a=0", "!a=1", "!!a=1", "(a=1)"}) {
            holdsDue(reads, 99, 2);
        }
        // Once read, nothing behind can mend it.
        holdsDue("a=1|b=0", 99, 2);
        holdsDue("a=1&b=1", 99, 2);
        holdsDue("!(a=1&b=0)|c=0", 99, 2);
        runDue("a=1:0;0=0:1;:1", 99, 2, NONE);
    }

    // Promise 11: "All is read from the left: a TERM behind one that holds, a FACTOR behind one that does not, is not read."
    private static void whatIsNotRead() {
        // b is MISSING, all others are 0.
        long person = 9900;
        holdsDue("a=0|b=0", person, 1);
        holdsDue("a=1|b=0", person, 2);
        holdsDue("b=0|a=0", person, 2);
        holdsDue("a=1&b=0", person, 0);
        holdsDue("a=0&b=0", person, 2);
        holdsDue("b=0&a=1", person, 2);
        holdsDue("a=1&b=0|c=0", person, 1);
        holdsDue("a=0|c=0&b=0", person, 1);
        holdsDue("a=0&(c=0|b=0)", person, 1);
        holdsDue("a=0&(c=1|b=0)", person, 2);
        holdsDue("!(a=1&b=0)", person, 1);
        holdsDue("!(a=0|b=0)", person, 0);
        holdsDue("a=1|c=1|d=0|b=0", person, 1);
        holdsDue("a=0&c=0&d=1&b=0", person, 0);
        holdsDue("(a=1|c=1)&b=0", person, 0);
        holdsDue("(a=0&c=0)|b=0", person, 1);
        holdsDue("a=1&b=0&b=0|b=0&c=1", person, 2);
        holdsDue("a=1&b=0|a=1&b=0", person, 0);
        // A LINE behind the one that ends the RUN is not read.
        runDue("a=0:1;b=0:0;:0", person, 1, 0);
    }

    // Promise 11: "Numbers as longs."
    private static void greatNumbers() {
        // 80 letters let no number come near what an int holds; but far above what fewer bytes do.
        holdsDue(times("99*99*99+", 6) + "99*99*99>99*99*99", 0, 1);
        holdsDue("0" + times("-99*99*99", 7) + "<0-99*99", 0, 1);
        holdsDue("99*99*99-98*99*99=99*99", 0, 1);
        holdsDue("99*99*99-99*99*98-99*98=99", 0, 1);
        holdsDue("0-99*99*99<0", 0, 1);
        holdsDue("0-20*h*h>0-20*20*20", 1900000000000000L, 1);
    }

    // Promise 11: "2 whether it COULD COME (1, 0)"; "a PERSON without MISSING numbers COULD COME, if all its numbers are within SPANS and all LAWS hold."
    private static void withoutMissingNumbers() {
        for (int f = 0; f < 8; f++) {
            AlikeUnlike x = new AlikeUnlike();
            due("none MISSING", x.run(0, 2), 1);
            due("MISSING in " + f, x.run(99 * unit(f), 2), 0);
            lay(x, "a=a|a=0");
            due("MISSING in " + f, x.run(99 * unit(f), 2), 0);
        }
    }

    // Promise 11: "if all its numbers are within SPANS"
    private static void withinSpans() {
        for (int f = 0; f < 8; f++) {
            AlikeUnlike x = new AlikeUnlike();
            x.field(f, LEAST, 3);
            x.field(f, GREATEST, 5);
            int[] due = {0, 0, 0, 1, 1, 1, 0, 0};
            for (int v = 0; v < 8; v++) {
                due(v + " in " + f, x.run(v * unit(f), 2), due[v]);
            }
        }
    }

    // Promise 11: "and all LAWS hold"
    private static void allLawsHold() {
        AlikeUnlike x = new AlikeUnlike();
        for (int i = 0; i < 6; i++) {
            lay(x, (char) ('a' + i) + "<2");
        }
        due("all hold", x.run(10101010101L, 2), 1);
        for (int i = 0; i < 6; i++) {
            due("LAW " + i + " does not", x.run(2 * unit(i), 2), 0);
        }
        due("without a LAW", x.run(2 * unit(6), 2), 1);
    }

    // Promise 11: "TERMS with "|" between (one of them at least holds)"; "FACTORS with "&" between (all hold)"
    private static void oneAtLeastAndAll() {
        holdsDue("a=1|b=1|c=1", 10000, 1);
        holdsDue("a=1|b=1|c=1", 1, 1);
        holdsDue("a=1|b=1|c=1", 10101, 1);
        holdsDue("a=1|b=1|c=1", 0, 0);
        holdsDue("a=1&b=1&c=1", 10101, 1);
        holdsDue("a=1&b=1&c=1", 101, 0);
        holdsDue("a=1&b=1&c=1", 10100, 0);
        holdsDue("a=1|b=1&c=1", 10100, 1);
        holdsDue("a=1|b=1&c=1", 100, 0);
        holdsDue("a=1&b=1|c=1", 10000, 1);
        holdsDue("a=1&(b=1|c=1)", 10000, 0);
    }

    // Promise 11: "or a SUM, "<", "=" or ">", a SUM"
    private static void comparedAtLikeOnes() {
        int[][] due = {{1, 0, 0}, {0, 1, 0}, {0, 0, 1}};
        for (int a = 4; a <= 6; a++) {
            holdsDue("a<5", a, due[a - 4][0]);
            holdsDue("a=5", a, due[a - 4][1]);
            holdsDue("a>5", a, due[a - 4][2]);
        }
    }

    // Promise 11: "All is read from the left"
    private static void sumsFromTheLeft() {
        holdsDue("9-3-2=4", 0, 1);
        holdsDue("9-3+2=8", 0, 1);
        holdsDue("2+3*4=14", 0, 1);
        holdsDue("2*3+4=10", 0, 1);
        holdsDue("9-2*3-1=2", 0, 1);
        holdsDue("1-2*2*2<0-6", 0, 1);
        holdsDue("07=7", 0, 1);
        holdsDue("00=0", 0, 1);
        holdsDue("10=9+1", 0, 1);
    }
}
