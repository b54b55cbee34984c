/**
 * Programs that decide about people, read as texts, and asked whether they
 * decide alike about those who are alike in all that counts.
 */
public final class AlikeUnlike {
    public static final int NONE = -1, SPENT = -2, UNKNOWN = -101, OUTSIDE = -102, STATE = -103, FULL = -104;

    private static final int FIELDS = 8, HIGHEST = 20, FIGURE = 100;
    private static final int MISSING = -1, MISSING_FIGURE = 99;
    private static final long GREATEST_PERSON = 9999999999999999L, NO_SIDE = -2;
    private static final int MAX_LETTERS = 80, MAX_LETTER = 126, LETTERS_A_CALL = 8;
    private static final int MAX_LAWS = 6, MAX_ROWS = 24, MAX_BOXES = 2000, MAX_SEEKS = 40, MAX_MENDS = 20;

    // What is told of a FIELD, and its KINDS.
    private static final int KIND = 0, LEAST = 1, GREATEST = 2, PRICE = 3, TOLD = 4;
    private static final int PLAIN = 0, BARRED = 1, KIN = 2, MAY = 3, MADE = 4;
    private static final int MAX_MAY = 3, MAX_PRICE = 99;

    private static final int PROGRAM_SORT = 0, LAW_SORT = 1;

    // What a RUN or a CONDITION comes to for one PERSON.
    private static final int FAILS = 0, HOLDS = 1, HOST = 2;

    // A SCRIPT's codes: a FIELD's number, an END, a joining letter, or NUMBER and a number's place.
    private static final int LINE_END = 16, LAST_END = 18, PAST_ENDS = 20, NUMBER = 128;
    private static final int MAX_NUMBER = 99;

    private final Form form = new Form();
    private final Page page = new Page();
    private final Script script = new Script();
    private final Walker walker = new Walker();
    private final Spanner spanner = new Spanner();
    private final Search search = new Search();
    private final Came came = new Came();
    private final Mender mender = new Mender();
    private final Cheapest cheapest = new Cheapest();
    private final Askings asked = new Askings();
    private final Person guest = new Person();
    private final Person bound = new Person();
    private final int[] spans = new int[2 * FIELDS];
    private int seeks;
    private int mends;

    public AlikeUnlike() {
    }

    // ---- fields

    public int field(int field, int what, int v) {
        if (!isField(field) || what < KIND || what > PRICE) {
            return UNKNOWN;
        }
        if (!form.fits(field, what, v)) {
            return OUTSIDE;
        }
        if (!form.allows(field, what, v)) {
            return STATE;
        }
        int was = form.told(field, what);
        form.tell(field, what, v);
        return was;
    }

    public int as(int field, int kind) {
        if (!isField(field)) {
            return UNKNOWN;
        }
        if (kind < PLAIN || kind > MADE) {
            return OUTSIDE;
        }
        return form.isOfKind(field, kind) ? field : NONE;
    }

    public int asks(int field, int what) {
        if (!isField(field)) {
            return UNKNOWN;
        }
        if (what < 0 || what > 1) {
            return OUTSIDE;
        }
        return bit(what == 0 ? form.counts(field) : form.changes(field));
    }

    // ---- the program, laws

    public int letters(long w) {
        int more = Page.lettersIn(w);
        if (more < 0) {
            return OUTSIDE;
        }
        if (page.size() + more > MAX_LETTERS) {
            return FULL;
        }
        page.append(w, more);
        return page.size();
    }

    public int blank() {
        int had = page.size();
        page.clear();
        return had;
    }

    public int fault(int sort) {
        if (sort != PROGRAM_SORT && sort != LAW_SORT) {
            return OUTSIDE;
        }
        return page.firstFault(sort);
    }

    public int program() {
        if (!page.isWhole(PROGRAM_SORT)) {
            return STATE;
        }
        script.write(page);
        page.clear();
        came.runAll(walker, script);
        return script.lines();
    }

    public int law() {
        if (!page.isWhole(LAW_SORT)) {
            return STATE;
        }
        if (form.laws() >= MAX_LAWS) {
            return FULL;
        }
        form.addLaw(page);
        page.clear();
        return form.laws() - 1;
    }

    public int strike() {
        if (form.laws() == 0) {
            return STATE;
        }
        form.dropLaw();
        return form.laws();
    }

    public int run(long person, int what) {
        if (!guest.read(person) || what < 0 || what > 2) {
            return OUTSIDE;
        }
        if (what != 2 && !hasProgram()) {
            return STATE;
        }
        return ranGuest(what);
    }

    // ---- who could come

    public int seek(int f, int boxes) {
        if (f != NONE && !isField(f)) {
            return UNKNOWN;
        }
        if (boxes < 1 || boxes > MAX_BOXES) {
            return OUTSIDE;
        }
        if (!hasProgram() || seeks >= MAX_SEEKS) {
            return STATE;
        }
        seeks++;
        return search.over(form, script, spanner, f, boxes);
    }

    public int sought(int what) {
        if (what < 0 || what > 2) {
            return OUTSIDE;
        }
        if (seeks == 0) {
            return STATE;
        }
        return search.tallied(what);
    }

    public long pair(int which) {
        if (which < 0 || which > 1) {
            return NO_SIDE;
        }
        return search.shown(which);
    }

    public int ends(long least, long greatest) {
        if (!guest.read(least) || !bound.read(greatest) || !guest.isWhole() || !bound.isWhole()) {
            return OUTSIDE;
        }
        for (int f = 0; f < FIELDS; f++) {
            if (guest.number(f) > bound.number(f)) {
                return OUTSIDE;
            }
            spans[2 * f] = guest.number(f);
            spans[2 * f + 1] = bound.number(f);
        }
        if (!hasProgram()) {
            return STATE;
        }
        return spanner.endsOver(script, spans, 0);
    }

    // ---- who came

    public int row(long person, int out) {
        if (!guest.read(person) || out < -1 || out > 1) {
            return OUTSIDE;
        }
        if (came.size() >= MAX_ROWS) {
            return FULL;
        }
        came.add(guest, out, hasProgram() ? walker.walk(script, guest) : NONE);
        return came.size();
    }

    public int end(int row) {
        if (!isRow(row)) {
            return UNKNOWN;
        }
        if (!hasProgram()) {
            return STATE;
        }
        return came.ended(row);
    }

    public int group(int field, int v, int what) {
        if (!isField(field)) {
            return UNKNOWN;
        }
        if (v < 0 || v > HIGHEST || what < 0 || what > 3) {
            return OUTSIDE;
        }
        if (!hasProgram()) {
            return STATE;
        }
        return came.members(field, v, what);
    }

    public int gap(int field, int v, int w, int part) {
        int refusal = refusalOfGroups(field, v, w, part, 1);
        if (refusal != 0) {
            return refusal;
        }
        return lowest(came.gapAbove(field, v, w), came.gapBelow(field, v, w), part);
    }

    public int odds(int field, int v, int w, int part) {
        int refusal = refusalOfGroups(field, v, w, part, 1);
        if (refusal != 0) {
            return refusal;
        }
        int let = came.members(field, v, Came.LET) + came.members(field, w, Came.LET);
        int all = came.members(field, v, Came.ALL) + came.members(field, w, Came.ALL);
        return lowest(came.dealsAsGreat(field, v, w), choose(all, let), part);
    }

    public int where(int what) {
        if (what < 0 || what > 5) {
            return OUTSIDE;
        }
        if (!hasProgram()) {
            return STATE;
        }
        came.findGreatestGap(form);
        return came.whereTold(what);
    }

    public int askings(int set, int g, int b, int h, int c, int what) {
        if (set < 0 || set > 7 || what < 0 || what > 2) {
            return OUTSIDE;
        }
        if (!isShortCount(g) || !isShortCount(b) || !isShortCount(h) || !isShortCount(c)) {
            return OUTSIDE;
        }
        asked.weigh(set, g, b, h, c);
        return asked.answered(what);
    }

    public int mend(int field, int v, int w, int what) {
        int refusal = refusalOfGroups(field, v, w, what, 2);
        if (refusal != 0) {
            return refusal;
        }
        if (mends >= MAX_MENDS) {
            return STATE;
        }
        mends++;
        mender.find(script, walker, came, field, v, w);
        return mender.found(what);
    }

    // ---- who was refused

    public int refused(int row, int what) {
        if (!isRow(row)) {
            return UNKNOWN;
        }
        if (what != 0 && (what < 10 || what >= 10 + FIELDS)) {
            return OUTSIDE;
        }
        if (!wasRefused(row)) {
            return STATE;
        }
        came.copyTo(row, guest);
        int price = cheapest.find(form, script, walker, guest);
        return what == 0 || price == NONE ? price : cheapest.number(what - 10);
    }

    public int sameFor(int row, int field, int v) {
        if (!isRow(row) || !isField(field)) {
            return UNKNOWN;
        }
        if (form.counts(field) || !form.isInSpan(field, v)) {
            return OUTSIDE;
        }
        if (!wasRefused(row)) {
            return STATE;
        }
        came.copyTo(row, guest);
        guest.put(field, v);
        return cheapest.find(form, script, walker, guest);
    }

    // ---- what is told

    public int count(int what) {
        switch (what) {
            case 0:
                return script.lines();
            case 1:
                return form.laws();
            case 2:
                return came.size();
            case 3:
                return page.size();
            case 4:
                return script.numbers();
            case 5:
                return seeks;
            case 6:
                return mends;
            default:
                return OUTSIDE;
        }
    }

    public long digest() {
        long h = came.folded(form.folded(307));
        for (int f = 0; f < FIELDS; f++) {
            guest.put(f, 0);
        }
        h = foldedGuest(h);
        for (int f = 0; f < FIELDS; f++) {
            guest.put(f, form.told(f, GREATEST));
        }
        h = foldedGuest(h);
        if (hasProgram()) {
            came.findGreatestGap(form);
            for (int what = 0; what <= 5; what++) {
                h = fold(h, came.whereTold(what));
            }
        }
        h = page.folded(h);
        for (int what = 0; what <= 6; what++) {
            h = fold(h, count(what));
        }
        return h;
    }

    // ---- what several calls share

    private boolean hasProgram() {
        return script.lines() > 0;
    }

    private boolean isRow(int row) {
        return row >= 0 && row < came.size();
    }

    private boolean wasRefused(int row) {
        return hasProgram() && came.isWhole(row) && came.ended(row) == FAILS;
    }

    private int ranGuest(int what) {
        if (what == 2) {
            return bit(form.isInSpans(guest) && form.keepsLaws(guest, walker));
        }
        if (!hasProgram()) {
            return NONE;
        }
        int end = walker.walk(script, guest);
        return what == 0 ? end : walker.line();
    }

    private long foldedGuest(long h) {
        long folded = h;
        for (int what = 0; what <= 2; what++) {
            folded = fold(folded, ranGuest(what));
        }
        return folded;
    }

    private int refusalOfGroups(int field, int v, int w, int part, int lastPart) {
        if (!isField(field)) {
            return UNKNOWN;
        }
        if (v < 0 || v > HIGHEST || w < 0 || w > HIGHEST || v == w || part < 0 || part > lastPart) {
            return OUTSIDE;
        }
        if (!hasProgram() || came.gapBelow(field, v, w) == 0) {
            return STATE;
        }
        return 0;
    }

    private static boolean isField(int field) {
        return field >= 0 && field < FIELDS;
    }

    private static boolean isShortCount(int n) {
        return n >= 0 && n <= 9;
    }

    private static boolean isDigit(int letter) {
        return letter >= '0' && letter <= '9';
    }

    private static boolean isFieldLetter(int letter) {
        return letter >= 'a' && letter < 'a' + FIELDS;
    }

    private static boolean isComparison(int letter) {
        // '<', '=' and '>' are neighbours.
        return letter >= '<' && letter <= '>';
    }

    private static int bit(boolean so) {
        return so ? 1 : 0;
    }

    private static long fold(long h, long number) {
        return 31 * h + number;
    }

    /** Above (part 0) or below (part 1) of a share in lowest terms. */
    private static int lowest(long above, long below, int part) {
        long common = commonDivisor(above, below);
        if (common == 0) {
            return 0;
        }
        return (int) ((part == 0 ? above : below) / common);
    }

    private static long commonDivisor(long one, long other) {
        long a = one;
        long b = other;
        // Each step lessens b, and two of them halve it: 128 are enough for all longs.
        for (int i = 0; i < 128 && b != 0; i++) {
            long rest = a % b;
            a = b;
            b = rest;
        }
        return a;
    }

    private static long choose(int all, int some) {
        if (some < 0 || some > all) {
            return 0;
        }
        long ways = 1;
        for (int i = 1; i <= some; i++) {
            ways = ways * (all - some + i) / i;
        }
        return ways;
    }

    /** FIELDS with their KINDS, SPANS and PRICES, and the LAWS: what tells who COULD COME. */
    private static final class Form {
        private final int[] told = new int[FIELDS * TOLD];
        private final Script[] laws = new Script[MAX_LAWS];
        private int lawCount;

        Form() {
            for (int f = 0; f < FIELDS; f++) {
                told[f * TOLD + GREATEST] = 9;
                told[f * TOLD + PRICE] = 1;
            }
            for (int i = 0; i < MAX_LAWS; i++) {
                laws[i] = new Script();
            }
        }

        int told(int f, int what) {
            return isField(f) && what >= KIND && what <= PRICE ? told[f * TOLD + what] : 0;
        }

        void tell(int f, int what, int v) {
            if (isField(f) && what >= KIND && what <= PRICE) {
                told[f * TOLD + what] = v;
            }
        }

        boolean fits(int f, int what, int v) {
            switch (what) {
                case KIND:
                    return v >= PLAIN && v <= MADE;
                case LEAST:
                    return v >= 0 && v <= told(f, GREATEST);
                case GREATEST:
                    return v >= told(f, LEAST) && v <= HIGHEST;
                default:
                    return v >= 1 && v <= MAX_PRICE;
            }
        }

        boolean allows(int f, int what, int v) {
            if (what == PRICE) {
                return changes(f);
            }
            return what != KIND || v != MAY || otherMays(f) < MAX_MAY;
        }

        private int otherMays(int but) {
            int mays = 0;
            for (int f = 0; f < FIELDS; f++) {
                mays += bit(f != but && changes(f));
            }
            return mays;
        }

        boolean isOfKind(int f, int kind) {
            int own = told(f, KIND);
            return kind == PLAIN || kind == own || kind == BARRED && own == KIN;
        }

        boolean counts(int f) {
            return !isOfKind(f, BARRED);
        }

        boolean changes(int f) {
            return told(f, KIND) == MAY;
        }

        boolean isInSpan(int f, int v) {
            return v >= told(f, LEAST) && v <= told(f, GREATEST);
        }

        int laws() {
            return lawCount;
        }

        void addLaw(Page page) {
            if (lawCount < MAX_LAWS && laws[lawCount] != null) {
                laws[lawCount].write(page);
                lawCount++;
            }
        }

        void dropLaw() {
            if (lawCount > 0) {
                lawCount--;
            }
        }

        boolean isInSpans(Person person) {
            for (int f = 0; f < FIELDS; f++) {
                if (!isInSpan(f, person.number(f))) {
                    return false;
                }
            }
            return true;
        }

        boolean keepsLaws(Person person, Walker walker) {
            for (int i = 0; i < lawCount && i < MAX_LAWS; i++) {
                if (laws[i] != null && walker.walk(laws[i], person) != HOLDS) {
                    return false;
                }
            }
            return true;
        }

        boolean barsBox(Spanner spanner, int[] spans, int base) {
            for (int i = 0; i < lawCount && i < MAX_LAWS; i++) {
                if (laws[i] != null) {
                    spanner.endsOver(laws[i], spans, base);
                    if (spanner.wasNever()) {
                        return true;
                    }
                }
            }
            return false;
        }

        long folded(long h) {
            long folded = h;
            for (int i = 0; i < told.length; i++) {
                folded = fold(folded, told[i]);
            }
            return folded;
        }
    }

    /** THE PAGE, and how far its letters could begin a PROGRAM or a LAW. */
    private static final class Page {
        // What may come next.
        private static final int FACTOR = 0, UNIT = 1, SECOND_DIGIT = 2, BEHIND_UNIT = 3, BEHIND_BRACKET = 4;
        private static final int END = 5, SEMICOLON = 6, NOTHING = 7;
        private static final int MAX_UNITS = 3;

        private final int[] letters = new int[MAX_LETTERS];
        private int size;

        private int sort;
        private int next;
        private int open;
        private int units;
        private boolean isRightSide;
        private boolean isLineStart;
        private boolean isLastLine;

        /** How many letters w tells, or -1 if it does not tell letters. */
        static int lettersIn(long w) {
            int many = 0;
            boolean ended = false;
            for (int i = 0; i < LETTERS_A_CALL; i++) {
                int letter = letterOf(w, i);
                if (letter > MAX_LETTER || ended && letter != 0) {
                    return -1;
                }
                ended = letter == 0;
                many += bit(!ended);
            }
            return many;
        }

        private static int letterOf(long w, int i) {
            return (int) (w >>> (8 * i) & 255);
        }

        void append(long w, int many) {
            for (int i = 0; i < many && size < MAX_LETTERS; i++) {
                letters[size] = letterOf(w, i);
                size++;
            }
        }

        void clear() {
            size = 0;
        }

        int size() {
            return size;
        }

        int letter(int i) {
            return i >= 0 && i < size ? letters[i] : 0;
        }

        long folded(long h) {
            long folded = h;
            for (int i = 0; i < size && i < MAX_LETTERS; i++) {
                folded = fold(folded, letters[i]);
            }
            return folded;
        }

        boolean isWhole(int ofSort) {
            if (firstFault(ofSort) != size) {
                return false;
            }
            if (ofSort == PROGRAM_SORT) {
                return next == NOTHING;
            }
            boolean behindUnit = next == SECOND_DIGIT || next == BEHIND_UNIT;
            return open == 0 && (behindUnit && isRightSide || next == BEHIND_BRACKET);
        }

        int firstFault(int ofSort) {
            sort = ofSort;
            next = FACTOR;
            open = 0;
            units = 0;
            isRightSide = false;
            isLineStart = ofSort == PROGRAM_SORT;
            isLastLine = false;
            for (int i = 0; i < size && i < MAX_LETTERS; i++) {
                if (!takes(letters[i])) {
                    return i;
                }
            }
            return size;
        }

        private boolean takes(int letter) {
            switch (next) {
                case FACTOR:
                    return takesFactor(letter);
                case UNIT:
                    return takesUnit(letter);
                case SECOND_DIGIT:
                    return isDigit(letter) ? goesOn(BEHIND_UNIT) : takesBehindUnit(letter);
                case BEHIND_UNIT:
                    return takesBehindUnit(letter);
                case BEHIND_BRACKET:
                    return takesBehindFactor(letter);
                case END:
                    return (letter == '0' || letter == '1') && goesOn(isLastLine ? NOTHING : SEMICOLON);
                case SEMICOLON:
                    isLineStart = true;
                    return letter == ';' && goesOn(FACTOR);
                default:
                    return false;
            }
        }

        private boolean goesOn(int with) {
            next = with;
            return true;
        }

        private boolean takesFactor(int letter) {
            if (isLineStart && letter == ':') {
                isLastLine = true;
                return goesOn(END);
            }
            isLineStart = false;
            if (letter == '(') {
                open++;
                return true;
            }
            units = 1;
            isRightSide = false;
            return letter == '!' || takesUnit(letter);
        }

        private boolean takesUnit(int letter) {
            if (isDigit(letter)) {
                return goesOn(SECOND_DIGIT);
            }
            return isFieldLetter(letter) && goesOn(BEHIND_UNIT);
        }

        private boolean takesBehindUnit(int letter) {
            if (letter == '*') {
                units++;
                return units <= MAX_UNITS && goesOn(UNIT);
            }
            units = 1;
            if (letter == '+' || letter == '-') {
                return goesOn(UNIT);
            }
            if (isRightSide) {
                return takesBehindFactor(letter);
            }
            isRightSide = true;
            return isComparison(letter) && goesOn(UNIT);
        }

        private boolean takesBehindFactor(int letter) {
            if (letter == '&' || letter == '|') {
                return goesOn(FACTOR);
            }
            if (letter == ')') {
                open--;
                return open >= 0 && goesOn(BEHIND_BRACKET);
            }
            return letter == ':' && sort == PROGRAM_SORT && open == 0 && goesOn(END);
        }
    }

    /** THE PROGRAM or a LAW, with each joining letter behind what it joins, so that no brackets are needed. */
    private static final class Script {
        private final int[] codes = new int[MAX_LETTERS];
        private final int[] numbers = new int[MAX_LETTERS];
        private final int[] held = new int[MAX_LETTERS];
        private int size;
        private int numberCount;
        private int lineCount;
        private int lineStart;
        private int holding;

        /** The page must be whole. */
        void write(Page page) {
            size = 0;
            numberCount = 0;
            lineCount = 0;
            lineStart = 0;
            holding = 0;
            int before = 0;
            for (int i = 0; i < page.size(); i++) {
                take(page.letter(i), before);
                before = page.letter(i);
            }
            release(1);
        }

        private void take(int letter, int before) {
            if (isDigit(letter)) {
                takeDigit(letter - '0', before);
            } else if (isFieldLetter(letter)) {
                add(letter - 'a');
            } else if (letter == '(' || letter == '!') {
                hold(letter);
            } else if (letter == ')') {
                release(1);
                holding = Math.max(0, holding - 1);
            } else if (letter == ':') {
                release(1);
            } else if (letter != ';') {
                release(rank(letter));
                hold(letter);
            }
        }

        private void takeDigit(int digit, int before) {
            if (before == ':') {
                add((size == lineStart ? LAST_END : LINE_END) + digit);
                lineStart = size;
                lineCount++;
            } else if (isDigit(before)) {
                putNumber(numberCount - 1, 10 * number(numberCount - 1) + digit);
            } else if (numberCount < MAX_LETTERS) {
                numbers[numberCount] = digit;
                add(NUMBER + numberCount);
                numberCount++;
            }
        }

        private static int rank(int letter) {
            switch (letter) {
                case '(':
                    return 0;
                case '|':
                    return 1;
                case '&':
                    return 2;
                case '!':
                    return 3;
                case '+':
                case '-':
                    return 5;
                case '*':
                    return 6;
                default:
                    return 4;
            }
        }

        private void add(int code) {
            if (size < MAX_LETTERS) {
                codes[size] = code;
                size++;
            }
        }

        private void hold(int letter) {
            if (holding < MAX_LETTERS) {
                held[holding] = letter;
                holding++;
            }
        }

        private void release(int least) {
            while (holding > 0 && holding <= MAX_LETTERS && rank(held[holding - 1]) >= least) {
                holding--;
                add(held[holding]);
            }
        }

        int size() {
            return size;
        }

        int code(int i) {
            return i >= 0 && i < size ? codes[i] : LAST_END;
        }

        int lines() {
            return lineCount;
        }

        int numbers() {
            return numberCount;
        }

        int number(int i) {
            return i >= 0 && i < numberCount ? numbers[i] : 0;
        }

        void putNumber(int i, int v) {
            if (i >= 0 && i < numberCount) {
                numbers[i] = v;
            }
        }
    }

    /** A number, or MISSING, for each FIELD. */
    private static final class Person {
        private final int[] numbers = new int[FIELDS];

        /** Whether told is a PERSON; only then this is that one. */
        boolean read(long told) {
            if (told < 0 || told > GREATEST_PERSON) {
                return false;
            }
            long left = told;
            for (int f = 0; f < FIELDS; f++) {
                int figure = (int) (left % FIGURE);
                if (figure > HIGHEST && figure != MISSING_FIGURE) {
                    return false;
                }
                numbers[f] = figure == MISSING_FIGURE ? MISSING : figure;
                left /= FIGURE;
            }
            return true;
        }

        long told() {
            long told = 0;
            for (int f = FIELDS - 1; f >= 0; f--) {
                told = told * FIGURE + (numbers[f] == MISSING ? MISSING_FIGURE : numbers[f]);
            }
            return told;
        }

        int number(int f) {
            return isField(f) ? numbers[f] : MISSING;
        }

        void put(int f, int v) {
            if (isField(f)) {
                numbers[f] = v;
            }
        }

        void copy(Person from) {
            for (int f = 0; f < FIELDS; f++) {
                numbers[f] = from.number(f);
            }
        }

        boolean isWhole() {
            for (int f = 0; f < FIELDS; f++) {
                if (numbers[f] == MISSING) {
                    return false;
                }
            }
            return true;
        }
    }

    /** Goes through a SCRIPT for one PERSON. */
    private static final class Walker {
        private final long[] pile = new long[MAX_LETTERS];
        private int top;
        private boolean readMissing;
        private int line;

        /** The END of a PROGRAM, or what a LAW comes to. */
        int walk(Script script, Person person) {
            top = 0;
            readMissing = false;
            line = 0;
            for (int i = 0; i < script.size(); i++) {
                int code = script.code(i);
                if (code >= NUMBER) {
                    push(script.number(code - NUMBER));
                } else if (code < FIELDS) {
                    pushField(person.number(code));
                } else if (code == '!') {
                    turn();
                } else if (code >= PAST_ENDS) {
                    join(code);
                } else if (code >= LAST_END) {
                    return code - LAST_END;
                } else if (endsLine()) {
                    return line == NONE ? HOST : code - LINE_END;
                }
            }
            return top == 1 ? (int) pile[0] : HOST;
        }

        /** Which LINE ended the last walk, or NONE. */
        int line() {
            return line;
        }

        private boolean endsLine() {
            long truth = top == 1 ? pile[0] : HOST;
            top = 0;
            if (truth == FAILS) {
                line++;
                return false;
            }
            if (truth == HOST) {
                line = NONE;
            }
            return true;
        }

        private void push(long number) {
            if (top < MAX_LETTERS) {
                pile[top] = number;
                top++;
            }
        }

        private void pushField(int number) {
            if (number == MISSING) {
                readMissing = true;
            }
            push(number);
        }

        private void turn() {
            if (top >= 1 && top <= MAX_LETTERS && pile[top - 1] != HOST) {
                pile[top - 1] = HOLDS - pile[top - 1];
            }
        }

        private void join(int letter) {
            if (top < 2 || top > MAX_LETTERS) {
                return;
            }
            top--;
            pile[top - 1] = joined(letter, pile[top - 1], pile[top]);
            if (readMissing && isComparison(letter)) {
                pile[top - 1] = HOST;
                readMissing = false;
            }
        }

        private static long joined(int letter, long left, long right) {
            switch (letter) {
                case '*':
                    return left * right;
                case '+':
                    return left + right;
                case '-':
                    return left - right;
                case '<':
                    return left < right ? HOLDS : FAILS;
                case '=':
                    return left == right ? HOLDS : FAILS;
                case '>':
                    return left > right ? HOLDS : FAILS;
                // What is not read must not matter: the left side alone tells whether the right one does.
                case '&':
                    return left == HOLDS ? right : left;
                default:
                    return left == FAILS ? right : left;
            }
        }
    }

    /**
     * Goes through a SCRIPT for all of one side of a BOX. A truth is a span, too:
     * 0 to 0 is NEVER, 1 to 1 SURE, 0 to 1 MAYBE.
     */
    private static final class Spanner {
        private final long[] lows = new long[MAX_LETTERS];
        private final long[] highs = new long[MAX_LETTERS];
        private int top;

        /** Spans stand from base on: for each FIELD least, greatest. */
        int endsOver(Script script, int[] spans, int base) {
            int ends = 0;
            top = 0;
            if (base < 0 || base > spans.length - 2 * FIELDS) {
                return ends;
            }
            for (int i = 0; i < script.size(); i++) {
                int code = script.code(i);
                if (code >= NUMBER) {
                    push(script.number(code - NUMBER), script.number(code - NUMBER));
                } else if (isField(code)) {
                    push(spans[base + 2 * code], spans[base + 2 * code + 1]);
                } else if (code == '!') {
                    turn();
                } else if (code >= PAST_ENDS) {
                    join(code);
                } else if (code >= LAST_END) {
                    return ends | 1 << (code - LAST_END);
                } else {
                    ends |= highs[0] == 0 ? 0 : 1 << (code - LINE_END);
                    if (lows[0] == 1) {
                        return ends;
                    }
                    top = 0;
                }
            }
            return ends;
        }

        /** Whether the LAW gone through last is NEVER so. */
        boolean wasNever() {
            return highs[0] == 0;
        }

        private void push(long low, long high) {
            if (top < MAX_LETTERS) {
                lows[top] = low;
                highs[top] = high;
                top++;
            }
        }

        private void turn() {
            if (top >= 1 && top <= MAX_LETTERS) {
                long low = lows[top - 1];
                lows[top - 1] = 1 - highs[top - 1];
                highs[top - 1] = 1 - low;
            }
        }

        private void join(int letter) {
            if (top < 2 || top > MAX_LETTERS) {
                return;
            }
            top -= 2;
            long a = lows[top];
            long b = highs[top];
            long c = lows[top + 1];
            long d = highs[top + 1];
            switch (letter) {
                case '*':
                    push(Math.min(Math.min(a * c, a * d), Math.min(b * c, b * d)),
                            Math.max(Math.max(a * c, a * d), Math.max(b * c, b * d)));
                    break;
                case '+':
                    push(a + c, b + d);
                    break;
                case '-':
                    push(a - d, b - c);
                    break;
                case '<':
                    push(bit(b < c), bit(a < d));
                    break;
                case '>':
                    push(bit(a > d), bit(b > c));
                    break;
                case '=':
                    push(bit(a == b && c == d && a == c), bit(a <= d && c <= b));
                    break;
                case '&':
                    push(Math.min(a, c), Math.min(b, d));
                    break;
                default:
                    push(Math.max(a, c), Math.max(b, d));
                    break;
            }
        }
    }

    /** SOUGHT: BOXES of two, kept as a pile with the next one on top. */
    private static final class Search {
        private static final int SIDE = 2 * FIELDS, BOX = 2 * SIDE;
        // A span of 21 numbers is single after five cuts, and there are two a FIELD at most.
        private static final int MAX_PILED = 2 * FIELDS * 5 + 1;

        private final int[] spans = new int[BOX * MAX_PILED];
        private final boolean[] isShared = new boolean[FIELDS];
        private int more;
        private int top;
        private int looked;
        private int cuts;
        private int settled;
        private long first = NONE;
        private long second = NONE;

        int over(Form form, Script script, Spanner spanner, int f, int boxes) {
            begin(form, f);
            while (top >= 0 && looked < boxes) {
                looked++;
                int base = top * BOX;
                int widest = widestOf(base);
                if (isSettled(form, script, spanner, base)) {
                    settled++;
                    top--;
                } else if (widest == NONE) {
                    first = pointOf(base);
                    second = pointOf(base + SIDE);
                    return 0;
                } else {
                    cut(base, widest);
                }
            }
            return top < 0 ? 1 : SPENT;
        }

        int tallied(int what) {
            if (what == 0) {
                return looked;
            }
            return what == 1 ? cuts : settled;
        }

        long shown(int which) {
            return which == 0 ? first : second;
        }

        private void begin(Form form, int f) {
            more = f;
            top = 0;
            looked = 0;
            cuts = 0;
            settled = 0;
            first = NONE;
            second = NONE;
            for (int g = 0; g < FIELDS; g++) {
                isShared[g] = f == NONE ? form.counts(g) : g != f;
                for (int side = 0; side < BOX; side += SIDE) {
                    spans[side + 2 * g] = form.told(g, LEAST);
                    spans[side + 2 * g + 1] = form.told(g, GREATEST);
                }
            }
        }

        private boolean isSettled(Form form, Script script, Spanner spanner, int base) {
            if (hasNoMore(base)) {
                return true;
            }
            if (form.barsBox(spanner, spans, base) || form.barsBox(spanner, spans, base + SIDE)) {
                return true;
            }
            int ends = spanner.endsOver(script, spans, base);
            int others = spanner.endsOver(script, spans, base + SIDE);
            // Bit 0 is END 0, bit 1 is END 1; 3 is both.
            if (ends == 3 || others == 3) {
                return false;
            }
            return more == NONE ? ends == others : ends != 2 || others != 1;
        }

        private boolean hasNoMore(int base) {
            int at = base + 2 * more;
            return isField(more) && base >= 0 && base <= spans.length - BOX && spans[at + SIDE + 1] <= spans[at];
        }

        /** The place of the least number of the span to cut; NONE: all are single. */
        private int widestOf(int base) {
            int widest = NONE;
            int width = 0;
            for (int f = 0; f < FIELDS; f++) {
                for (int side = 0; side < BOX; side += SIDE) {
                    int at = base + side + 2 * f;
                    if (at >= 0 && at + 1 < spans.length && spans[at + 1] - spans[at] > width) {
                        width = spans[at + 1] - spans[at];
                        widest = at;
                    }
                }
            }
            return widest;
        }

        private void cut(int base, int at) {
            cuts++;
            if (base < 0 || base + 2 * BOX > spans.length || at < base || at + 1 >= base + BOX) {
                return;
            }
            System.arraycopy(spans, base, spans, base + BOX, BOX);
            top++;
            halve(base, at);
            int f = (at - base) % SIDE / 2;
            if (isShared[f]) {
                halve(base, base + SIDE + 2 * f);
            }
        }

        /** The box at base keeps the upper half, its copy above it the lower one. */
        private void halve(int base, int at) {
            if (at < base || at + 1 + BOX >= spans.length) {
                return;
            }
            int middle = (spans[at] + spans[at + 1]) / 2;
            spans[at] = middle + 1;
            spans[at + BOX + 1] = middle;
        }

        private long pointOf(int base) {
            long point = 0;
            for (int f = FIELDS - 1; f >= 0; f--) {
                int at = base + 2 * f;
                point = point * FIGURE + (at >= 0 && at < spans.length ? spans[at] : 0);
            }
            return point;
        }
    }

    /** ROWS, with their RUNS kept, groups of them, and WHERE the GAP is greatest. */
    private static final class Came {
        private static final int ALL = 0, LET = 1, GOOD = 2, GOOD_AND_LET = 3;

        private final Person[] people = new Person[MAX_ROWS];
        private final int[] outs = new int[MAX_ROWS];
        private final int[] runs = new int[MAX_ROWS];
        private int size;

        private final int[] allAt = new int[HIGHEST + 1];
        private final int[] letAt = new int[HIGHEST + 1];
        private int all;
        private int let;
        private int field;
        private int least;
        private int greatest;
        private long above;
        private long below;
        private int paid;

        Came() {
            for (int i = 0; i < MAX_ROWS; i++) {
                people[i] = new Person();
            }
        }

        int size() {
            return size;
        }

        void add(Person person, int out, int run) {
            if (size < MAX_ROWS && people[size] != null) {
                people[size].copy(person);
                outs[size] = out;
                runs[size] = run;
                size++;
            }
        }

        void runAll(Walker walker, Script script) {
            for (int i = 0; i < size && i < MAX_ROWS; i++) {
                runs[i] = people[i] == null ? NONE : walker.walk(script, people[i]);
            }
        }

        /** null, if there is no such ROW. */
        Person person(int i) {
            return isRowHere(i) ? people[i] : null;
        }

        private boolean isRowHere(int i) {
            return i >= 0 && i < size && i < MAX_ROWS;
        }

        int ended(int i) {
            return isRowHere(i) ? runs[i] : NONE;
        }

        int number(int i, int f) {
            return isRowHere(i) && people[i] != null ? people[i].number(f) : MISSING;
        }

        boolean isWhole(int i) {
            return isRowHere(i) && people[i] != null && people[i].isWhole();
        }

        void copyTo(int i, Person person) {
            if (isRowHere(i) && people[i] != null) {
                person.copy(people[i]);
            }
        }

        long folded(long h) {
            long folded = h;
            for (int i = 0; i < size && i < MAX_ROWS; i++) {
                folded = fold(folded, people[i] == null ? 0 : people[i].told());
                folded = fold(folded, outs[i]);
                folded = fold(folded, runs[i]);
            }
            return folded;
        }

        int members(int f, int v, int what) {
            int many = 0;
            for (int i = 0; i < size && i < MAX_ROWS; i++) {
                many += bit(number(i, f) == v && isAs(i, what));
            }
            return many;
        }

        private boolean isAs(int i, int what) {
            boolean wasLet = ended(i) == HOLDS;
            boolean wasGood = isRowHere(i) && outs[i] == 1;
            switch (what) {
                case ALL:
                    return true;
                case LET:
                    return wasLet;
                case GOOD:
                    return wasGood;
                case GOOD_AND_LET:
                    return wasLet && wasGood;
                default:
                    return false;
            }
        }

        long gapAbove(int f, int v, int w) {
            return Math.abs(members(f, v, LET) * members(f, w, ALL) - members(f, w, LET) * members(f, v, ALL));
        }

        /** 0, if one of the groups has no ROW. */
        long gapBelow(int f, int v, int w) {
            return members(f, v, ALL) * members(f, w, ALL);
        }

        /** How many ways to deal as many marks make the GAP as great at least. */
        long dealsAsGreat(int f, int v, int w) {
            int here = members(f, v, ALL);
            int there = members(f, w, ALL);
            int marks = members(f, v, LET) + members(f, w, LET);
            long gap = gapAbove(f, v, w);
            long ways = 0;
            for (int i = 0; i <= here && i <= marks; i++) {
                if (Math.abs(i * there - (marks - i) * here) >= gap) {
                    ways += choose(here, i) * choose(there, marks - i);
                }
            }
            return ways;
        }

        void findGreatestGap(Form form) {
            field = NONE;
            paid = 0;
            for (int f = 0; f < FIELDS; f++) {
                if (form.counts(f)) {
                    tally(f);
                    lookAlong(f, form.told(f, LEAST), form.told(f, GREATEST));
                }
            }
        }

        private void tally(int f) {
            all = 0;
            let = 0;
            for (int v = 0; v <= HIGHEST; v++) {
                allAt[v] = 0;
                letAt[v] = 0;
            }
            for (int i = 0; i < size && i < MAX_ROWS; i++) {
                int v = number(i, f);
                if (v >= 0 && v <= HIGHEST) {
                    int one = bit(runs[i] == HOLDS);
                    allAt[v]++;
                    letAt[v] += one;
                    all++;
                    let += one;
                }
            }
        }

        private void lookAlong(int f, int from, int to) {
            for (int low = Math.max(0, from); low <= to && low <= HIGHEST; low++) {
                int in = 0;
                int letIn = 0;
                for (int high = low; high <= to && high <= HIGHEST; high++) {
                    in += allAt[high];
                    letIn += letAt[high];
                    if (in > 0 && in < all) {
                        paid++;
                        long gap = Math.abs(letIn * (all - in) - (let - letIn) * in);
                        keepIfGreater(f, low, high, gap, in * (all - in));
                    }
                }
            }
        }

        /** Of like ones the first stays: they come by FIELD, least, greatest. */
        private void keepIfGreater(int f, int low, int high, long gap, long of) {
            if (field == NONE || gap * below > above * of) {
                field = f;
                least = low;
                greatest = high;
                above = gap;
                below = of;
            }
        }

        int whereTold(int what) {
            if (what == 5) {
                return paid;
            }
            if (field == NONE) {
                return NONE;
            }
            switch (what) {
                case 0:
                    return field;
                case 1:
                    return least;
                case 2:
                    return greatest;
                case 3:
                    return lowest(above, below, 0);
                default:
                    return lowest(above, below, 1);
            }
        }
    }

    /** MEND: tries numbers in the order in which the first that mends is the one. */
    private static final class Mender {
        private final int[] rows = new int[MAX_ROWS];
        private int size;
        private int firstSize;
        private int place;
        private int value;
        private int change;

        void find(Script script, Walker walker, Came came, int field, int v, int w) {
            size = 0;
            gather(came, field, v);
            firstSize = size;
            gather(came, field, w);
            if (isEven(script, walker, came)) {
                keep(NONE, 0, 0);
                return;
            }
            keep(NONE, NONE, NONE);
            for (int by = 1; by <= MAX_NUMBER && change == NONE; by++) {
                for (int i = 0; i < script.numbers() && change == NONE; i++) {
                    tryNumber(script, walker, came, i, -by);
                    tryNumber(script, walker, came, i, by);
                }
            }
        }

        int found(int what) {
            if (what == 0) {
                return place;
            }
            return what == 1 ? value : change;
        }

        private void keep(int i, int v, int by) {
            place = i;
            value = v;
            change = by;
        }

        private void gather(Came came, int field, int v) {
            for (int i = 0; i < came.size() && size < MAX_ROWS; i++) {
                if (came.number(i, field) == v) {
                    rows[size] = i;
                    size++;
                }
            }
        }

        private void tryNumber(Script script, Walker walker, Came came, int i, int by) {
            int was = script.number(i);
            if (change != NONE || was + by < 0 || was + by > MAX_NUMBER) {
                return;
            }
            script.putNumber(i, was + by);
            if (isEven(script, walker, came)) {
                keep(i, was + by, Math.abs(by));
            }
            script.putNumber(i, was);
        }

        private boolean isEven(Script script, Walker walker, Came came) {
            int here = 0;
            int there = 0;
            for (int k = 0; k < size && k < MAX_ROWS; k++) {
                Person person = came.person(rows[k]);
                int let = bit(person != null && walker.walk(script, person) == HOLDS);
                if (k < firstSize) {
                    here += let;
                } else {
                    there += let;
                }
            }
            return here * (size - firstSize) == there * firstSize;
        }
    }

    /** The PERSON of least PRICE who COULD COME, differs in MAY FIELDS alone, and is LET. */
    private static final class Cheapest {
        private final Person tried = new Person();
        private final Person best = new Person();
        private int bestPrice;

        int find(Form form, Script script, Walker walker, Person from) {
            bestPrice = NONE;
            goThrough(form, script, walker, from, 0, 0);
            return bestPrice;
        }

        int number(int f) {
            return best.number(f);
        }

        /** Goes by FIELDS from the least numbers on, so that of like PRICES the first one stays. */
        private void goThrough(Form form, Script script, Walker walker, Person from, int f, int price) {
            if (bestPrice != NONE && price >= bestPrice) {
                return;
            }
            if (f >= FIELDS) {
                if (walker.walk(script, tried) == HOLDS && form.keepsLaws(tried, walker)) {
                    best.copy(tried);
                    bestPrice = price;
                }
                return;
            }
            int own = from.number(f);
            boolean changes = form.changes(f);
            int low = changes ? form.told(f, LEAST) : own;
            int high = changes ? form.told(f, GREATEST) : own;
            for (int v = low; v <= high; v++) {
                if (form.isInSpan(f, v)) {
                    tried.put(f, v);
                    goThrough(form, script, walker, from, f + 1, price + Math.abs(v - own) * form.told(f, PRICE));
                }
            }
        }
    }

    /** ASKINGS for two groups: every way to let some of each is looked at. */
    private static final class Askings {
        private int good;
        private int bad;
        private int otherGood;
        private int otherBad;
        private int most;
        private int fewest;

        void weigh(int set, int g, int b, int h, int c) {
            good = g;
            bad = b;
            otherGood = h;
            otherBad = c;
            most = NONE;
            fewest = NONE;
            for (int p = 0; p <= g; p++) {
                for (int r = p == 0 ? 1 : 0; r <= b; r++) {
                    weighOthers(set, p, r);
                }
            }
        }

        private void weighOthers(int set, int p, int r) {
            for (int q = 0; q <= otherGood; q++) {
                for (int s = q == 0 ? 1 : 0; s <= otherBad; s++) {
                    int unmet = Integer.bitCount(set & ~met(p, r, q, s));
                    if (fewest == NONE || unmet < fewest) {
                        fewest = unmet;
                    }
                    if (unmet == 0) {
                        most = Math.max(most, p + r + q + s);
                    }
                }
            }
        }

        private int met(int p, int r, int q, int s) {
            return bit(isSameShare(p + r, good + bad, q + s, otherGood + otherBad))
                    | bit(isSameShare(p, good, q, otherGood)) << 1
                    | bit(isSameShare(p, p + r, q, q + s)) << 2;
        }

        /** Shares by nothing are no shares. */
        private static boolean isSameShare(int part, int whole, int otherPart, int otherWhole) {
            return whole > 0 && otherWhole > 0 && part * otherWhole == otherPart * whole;
        }

        int answered(int what) {
            if (what == 0) {
                return bit(fewest == 0);
            }
            return what == 1 ? most : fewest;
        }
    }
}
