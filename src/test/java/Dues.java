import java.lang.reflect.InvocationTargetException;
import java.lang.reflect.Method;
import java.lang.reflect.Modifier;

/** What the tests share: answers that are due, and short ways to tell an object its program and fields. */
class Dues {
    static final int NONE = -1, SPENT = -2, UNKNOWN = -101, OUTSIDE = -102, STATE = -103, FULL = -104;
    static final int MIN = Integer.MIN_VALUE, MAX = Integer.MAX_VALUE;
    static final int KIND = 0, LEAST = 1, GREATEST = 2, PRICE = 3;
    static final int PLAIN = 0, BARRED = 1, KIN = 2, MAY = 3, MADE = 4;
    private static final int MAX_PRINTED = 50;
    private static int wrong = 0;
    private static String test = "";

    static void due(String call, long got, long want) {
        if (got != want) {
            wrong++;
            if (wrong <= MAX_PRINTED) {
                System.out.println(test + ": " + call + " answered " + got + ", due is " + want);
            }
        }
    }

    /** Runs every private static method without parameters, and ends with 1 if an answer was not as due. */
    static void runAll(Class<?> tests) throws Exception {
        int many = 0;
        for (Method method : tests.getDeclaredMethods()) {
            if (Modifier.isPrivate(method.getModifiers()) && Modifier.isStatic(method.getModifiers())
                    && method.getParameterCount() == 0 && method.getReturnType() == void.class && !method.isSynthetic()) {
                test = tests.getName() + "." + method.getName();
                run(method);
                many++;
            }
        }
        System.out.println(many + " tests, " + wrong + " answers not as due");
        if (wrong != 0 || many == 0) {
            System.exit(1);
        }
    }

    private static void run(Method method) throws Exception {
        method.setAccessible(true);
        try {
            method.invoke(null);
        } catch (InvocationTargetException thrown) {
            wrong++;
            System.out.println(test + " threw " + thrown.getCause());
        }
    }

    /** Letters told as letters() takes them: eight at most. */
    static long word(String text) {
        long w = 0;
        for (int i = text.length() - 1; i >= 0; i--) {
            w = w << 8 | text.charAt(i);
        }
        return w;
    }

    static void put(AlikeUnlike x, String text) {
        x.blank();
        for (int i = 0; i < text.length(); i += 8) {
            x.letters(word(text.substring(i, Math.min(text.length(), i + 8))));
        }
        due("letters of " + text, x.count(3), text.length());
    }

    static AlikeUnlike with(String program) {
        AlikeUnlike x = new AlikeUnlike();
        tell(x, program);
        return x;
    }

    static void tell(AlikeUnlike x, String program) {
        put(x, program);
        due("program " + program, x.program() > 0 ? 1 : 0, 1);
    }

    static void lay(AlikeUnlike x, String law) {
        put(x, law);
        due("law " + law, x.law() >= 0 ? 1 : 0, 1);
    }

    /** All SPANS from 0 to 0, but those told as FIELD, greatest. */
    static void narrow(AlikeUnlike x, int... spans) {
        for (int f = 0; f < 8; f++) {
            x.field(f, GREATEST, 0);
        }
        for (int i = 0; i < spans.length; i += 2) {
            x.field(spans[i], GREATEST, spans[i + 1]);
        }
    }

    static void rows(AlikeUnlike x, long... persons) {
        for (long person : persons) {
            due("row " + person, x.row(person, 0) > 0 ? 1 : 0, 1);
        }
    }

    static String times(String s, int n) {
        return s.repeat(n);
    }

    static long fold(long h, long... numbers) {
        for (long n : numbers) {
            h = 31 * h + n;
        }
        return h;
    }

    /** 1 with so many pairs of noughts behind: what a 1 in that FIELD adds to a PERSON. */
    static long unit(int field) {
        long one = 1;
        for (int f = 0; f < field; f++) {
            one *= 100;
        }
        return one;
    }

    static void seekDue(AlikeUnlike x, int f, int boxes, int answer, int looked, int cut, int done) {
        due("seek(" + f + ", " + boxes + ")", x.seek(f, boxes), answer);
        due("looked at", x.sought(0), looked);
        due("cut", x.sought(1), cut);
        due("done", x.sought(2), done);
    }

    static void pairDue(AlikeUnlike x, long first, long second) {
        due("pair(0)", x.pair(0), first);
        due("pair(1)", x.pair(1), second);
    }

    static void whereDue(AlikeUnlike x, int... due) {
        for (int what = 0; what <= 5; what++) {
            due("where(" + what + ")", x.where(what), due[what]);
        }
    }

    static void askingsDue(AlikeUnlike x, int set, int g, int b, int h, int c, int... due) {
        for (int what = 0; what <= 2; what++) {
            due("askings(" + set + ", " + g + ", " + b + ", " + h + ", " + c + ", " + what + ")",
                    x.askings(set, g, b, h, c, what), due[what]);
        }
    }

    static void mendDue(AlikeUnlike x, int f, int v, int w, int... due) {
        for (int what = 0; what <= 2; what++) {
            due("mend(" + f + ", " + v + ", " + w + ", " + what + ")", x.mend(f, v, w, what), due[what]);
        }
    }

    static void shareDue(String call, int above, int below, int dueAbove, int dueBelow) {
        due(call + " above", above, dueAbove);
        due(call + " below", below, dueBelow);
    }

    static void refusedDue(AlikeUnlike x, int row, int price, int... numbers) {
        due("refused(" + row + ", 0)", x.refused(row, 0), price);
        for (int f = 0; f < 8; f++) {
            due("refused(" + row + ", 1" + f + ")", x.refused(row, 10 + f), price == NONE ? NONE : numbers[f]);
        }
    }
}
