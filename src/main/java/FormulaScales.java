import java.util.Arrays;
import java.util.NoSuchElementException;

/** Balances equations of formulas; the promises are those of the project's document. */
public final class FormulaScales {
    public static final int NONE_YET = -1;
    public static final int SIGN = -2, NUMBER = -3, DEEP = -4, MANY = -5, TOO_MUCH = -6;
    public static final int BALANCED = 0, NONE = 1, MIXED = 2, OPEN = 3;

    private static final int MOST_CHARACTERS = 100;
    private static final int MOST_FORMULAS = 6;
    private static final int MOST_KINDS = 5;
    private static final int MOST_DEPTH = 3;
    private static final int MOST_OF_A_KIND = 40;
    private static final int BYTES_OF_A_LONG = 8;
    private static final int NO_FAULT = 0;
    private static final int NO_PLACE = -1;
    private static final int NO_KIND = -1;
    private static final int NO_ROW = -1;
    private static final int NO_CHARACTER = -1;
    private static final int CHARGE_NAME = 0;
    private static final char BLANK = ' ';
    // No character of a text is 0, so 0 can stand for the place behind the last one.
    private static final char END = 0;
    // The text, six numbers of at most ten digits with a blank, and five signs with their blanks need 181.
    private static final int MOST_WRITTEN = 200;
    // Those of the greatest long.
    private static final int MOST_DIGITS = 19;
    // Euclid's steps on two longs stay below 100.
    private static final int MOST_DIVISIONS = 200;

    private final Reader reader;
    private final Balance balance;
    private final Line line;

    public FormulaScales() {
        reader = new Reader();
        balance = new Balance();
        line = new Line();
    }

    public int type(long more) throws IllegalArgumentException, UnsupportedOperationException {
        int count = charactersIn(more);
        for (int i = 0; i < count; i++) {
            if (!isPrintable(byteOf(more, i))) {
                throw new IllegalArgumentException();
            }
        }
        Text text = reader.text;
        if (text.length + count > MOST_CHARACTERS) {
            throw new UnsupportedOperationException();
        }
        for (int i = 0; i < count; i++) {
            text.add((char) byteOf(more, i));
        }
        return text.length;
    }

    public int read() {
        Equation equation = reader.equation;
        reader.readEquation();
        if (reader.fault == NO_FAULT) {
            balance.solve(equation);
        } else {
            equation.clear();
            balance.forget();
        }
        if (balance.verdict == BALANCED) {
            line.write(equation, reader.text, balance.bases[0]);
        }
        reader.text.clear();
        return reader.fault == NO_FAULT ? equation.formulaCount : reader.fault;
    }

    public int at() {
        return reader.faultPlace;
    }

    public int state() {
        return balance.verdict;
    }

    public int freedom() {
        return balance.verdict == NONE_YET ? NONE_YET : balance.freeCount;
    }

    public int formulas() {
        return reader.equation.formulaCount;
    }

    public int kinds() {
        return reader.equation.kindCount();
    }

    public int name(int kind) throws NoSuchElementException {
        if (!reader.equation.containsKind(kind)) {
            throw new NoSuchElementException();
        }
        return reader.equation.kindName(kind);
    }

    public int has(int formula, int kind) throws NoSuchElementException {
        if (!reader.equation.containsFormula(formula) || !reader.equation.containsKind(kind)) {
            throw new NoSuchElementException();
        }
        return reader.equation.amount(formula, kind);
    }

    public boolean product(int formula) throws NoSuchElementException {
        if (!reader.equation.containsFormula(formula)) {
            throw new NoSuchElementException();
        }
        return reader.equation.isProduct(formula);
    }

    public boolean free(int formula) throws NoSuchElementException {
        if (!reader.equation.containsFormula(formula)) {
            throw new NoSuchElementException();
        }
        return balance.dependent[formula];
    }

    public long number(int base, int formula) throws NoSuchElementException {
        if (base < 0 || base >= balance.freeCount || !reader.equation.containsFormula(formula)) {
            throw new NoSuchElementException();
        }
        return balance.bases[base][formula];
    }

    public long weight(int kind) throws NoSuchElementException, IllegalStateException {
        Equation equation = reader.equation;
        if (!equation.containsKind(kind)) {
            throw new NoSuchElementException();
        }
        if (balance.verdict != BALANCED) {
            throw new IllegalStateException();
        }
        long sum = 0;
        for (int i = 0; i < equation.reactantCount; i++) {
            sum += balance.bases[0][i] * equation.amount(i, kind);
        }
        return sum;
    }

    public int written(int i) throws IllegalStateException {
        if (balance.verdict != BALANCED) {
            throw new IllegalStateException();
        }
        return line.characterAt(i);
    }

    public boolean solves(int a, int b, int c, int d, int e) throws IllegalStateException {
        Equation equation = reader.equation;
        if (equation.formulaCount == 0 || equation.formulaCount == MOST_FORMULAS) {
            throw new IllegalStateException();
        }
        for (int kind = 0; kind < equation.kindCount(); kind++) {
            long sum = equation.share(0, kind, a) + equation.share(1, kind, b) + equation.share(2, kind, c)
                    + equation.share(3, kind, d) + equation.share(4, kind, e);
            if (sum != 0) {
                return false;
            }
        }
        return true;
    }

    private static int charactersIn(long more) {
        int count = 0;
        while (count < BYTES_OF_A_LONG && byteOf(more, count) != 0) {
            count++;
        }
        return count;
    }

    private static int byteOf(long more, int i) {
        return (int) (more >>> (8 * i)) & 255;
    }

    private static boolean isPrintable(int code) {
        return code >= 32 && code <= 126;
    }

    private static boolean isDigit(char c) {
        return c >= '0' && c <= '9';
    }

    private static boolean isCapital(char c) {
        return c >= 'A' && c <= 'Z';
    }

    private static boolean isSmall(char c) {
        return c >= 'a' && c <= 'z';
    }

    /** The typed characters, and the place to which reading has come. */
    private static final class Text {
        final char[] characters = new char[MOST_CHARACTERS];
        int length = 0;
        int place = 0;

        void add(char c) {
            if (length < MOST_CHARACTERS) {
                characters[length] = c;
                length++;
            }
        }

        void clear() {
            length = 0;
            place = 0;
        }

        char here() {
            return place >= 0 && place < length ? characters[place] : END;
        }

        char ahead(int steps) {
            int i = place + steps;
            return i >= 0 && i < length ? characters[i] : END;
        }

        void skipBlanks() {
            while (place < length && characters[place] == BLANK) {
                place++;
            }
        }
    }

    /** What has been read: the formulas, the kinds, and how much each formula has of each kind. */
    private static final class Equation {
        final int[] elementNames = new int[MOST_KINDS];
        final int[][] amounts = new int[MOST_FORMULAS][MOST_KINDS];
        final int[] charges = new int[MOST_FORMULAS];
        final int[] begins = new int[MOST_FORMULAS];
        final int[] ends = new int[MOST_FORMULAS];
        int formulaCount = 0;
        int reactantCount = 0;
        int elementCount = 0;
        boolean charged = false;

        void clear() {
            formulaCount = 0;
            reactantCount = 0;
            elementCount = 0;
            charged = false;
        }

        int kindCount() {
            return charged ? elementCount + 1 : elementCount;
        }

        boolean containsFormula(int formula) {
            return formula >= 0 && formula < formulaCount;
        }

        boolean containsKind(int kind) {
            return kind >= 0 && kind < kindCount();
        }

        boolean isProduct(int formula) {
            return formula >= reactantCount;
        }

        int kindName(int kind) {
            return kind < elementCount ? elementNames[kind] : CHARGE_NAME;
        }

        int amount(int formula, int kind) {
            return kind < elementCount ? amounts[formula][kind] : charges[formula];
        }

        /** What a formula taken so many times gives to a solution's sum; formulas that there are not give nothing. */
        long share(int formula, int kind, long times) {
            if (!containsFormula(formula)) {
                return 0;
            }
            long part = times * amount(formula, kind);
            return isProduct(formula) ? -part : part;
        }

        /** The element's kind, a new one if need be; NO_KIND if it would be one too many. */
        int elementKind(int elementName) {
            for (int i = 0; i < elementCount; i++) {
                if (elementNames[i] == elementName) {
                    return i;
                }
            }
            if (kindCount() >= MOST_KINDS) {
                return NO_KIND;
            }
            elementNames[elementCount] = elementName;
            elementCount++;
            return elementCount - 1;
        }

        /** Whether the charge is a kind now, which it can't become as one too many. */
        boolean admitCharge() {
            charged = charged || elementCount < MOST_KINDS;
            return charged;
        }

        void addFormula(int begin, int end, long[] totals, int charge) {
            if (formulaCount < MOST_FORMULAS) {
                for (int kind = 0; kind < MOST_KINDS; kind++) {
                    amounts[formulaCount][kind] = (int) totals[kind];
                }
                charges[formulaCount] = charge;
                begins[formulaCount] = begin;
                ends[formulaCount] = end;
                formulaCount++;
            }
        }
    }

    /** Goes through the text from its front, up to its end or to the first fault. */
    private static final class Reader {
        final Text text = new Text();
        final Equation equation = new Equation();
        int fault = NO_FAULT;
        int faultPlace = NO_PLACE;
        // What the units have so far, a row for each depth; longs, as five numbers up to 99 may be multiplied.
        private final long[][] sums = new long[MOST_DEPTH + 1][MOST_KINDS];
        private final char[] closings = new char[MOST_DEPTH + 1];
        private int depth = 0;
        private final long[] totals = new long[MOST_KINDS];
        private int charge = 0;

        void readEquation() {
            fault = NO_FAULT;
            faultPlace = NO_PLACE;
            text.place = 0;
            equation.clear();
            boolean more = true;
            // One round more than there may be formulas: the last one can only meet MANY.
            for (int i = 0; i <= MOST_FORMULAS && more; i++) {
                text.skipBlanks();
                int begin = text.place;
                beginFormula();
                if (equation.formulaCount >= MOST_FORMULAS) {
                    meet(MANY, begin);
                } else if (text.here() == 'e') {
                    readElectron();
                } else {
                    readFormula();
                }
                endFormula(begin);
                more = fault == NO_FAULT && readSign();
            }
        }

        private void meet(int newFault, int place) {
            fault = newFault;
            faultPlace = place;
        }

        private void beginFormula() {
            Arrays.fill(totals, 0L);
            charge = 0;
        }

        private void endFormula(int begin) {
            if (fault == NO_FAULT && isTooMuch()) {
                meet(TOO_MUCH, begin);
            }
            if (fault == NO_FAULT) {
                equation.addFormula(begin, text.place, totals, charge);
            }
        }

        private boolean isTooMuch() {
            for (int kind = 0; kind < MOST_KINDS; kind++) {
                if (totals[kind] > MOST_OF_A_KIND) {
                    return true;
                }
            }
            return charge > MOST_OF_A_KIND || charge < -MOST_OF_A_KIND;
        }

        /** Whether a sign stands behind the formula, so that another formula must come. */
        private boolean readSign() {
            text.skipBlanks();
            char c = text.here();
            boolean secondSide = equation.reactantCount > 0;
            if (c == END && secondSide) {
                return false;
            }
            if (c == '=' && !secondSide) {
                equation.reactantCount = equation.formulaCount;
            } else if (c != '+') {
                meet(SIGN, text.place);
                return false;
            }
            text.place++;
            return true;
        }

        private void readElectron() {
            if (text.ahead(1) != '^' || text.ahead(2) != '-') {
                meet(SIGN, text.place);
            } else if (!equation.admitCharge()) {
                meet(MANY, text.place);
            } else {
                charge = -1;
                text.place += 3;
            }
        }

        private void readFormula() {
            boolean more = true;
            for (int i = 0; i < MOST_CHARACTERS && more; i++) {
                int factor = readNumber();
                if (fault == NO_FAULT) {
                    readUnits();
                    addTimes(totals, sums[0], factor);
                }
                more = fault == NO_FAULT && text.here() == '.';
                if (more) {
                    text.place++;
                }
            }
            if (fault == NO_FAULT && text.here() == '^') {
                readCharge();
            }
        }

        private void readCharge() {
            if (!equation.admitCharge()) {
                meet(MANY, text.place);
                return;
            }
            text.place++;
            int size = readNumber();
            if (fault != NO_FAULT) {
                return;
            }
            char c = text.here();
            if (c != '+' && c != '-') {
                meet(SIGN, text.place);
                return;
            }
            charge = c == '+' ? size : -size;
            text.place++;
        }

        /** Reads the units of a part, and leaves what they have in the sums of depth 0. */
        private void readUnits() {
            depth = 0;
            Arrays.fill(sums[0], 0L);
            boolean unitMustCome = true;
            boolean more = true;
            for (int i = 0; i < MOST_CHARACTERS && more; i++) {
                char c = text.here();
                if (isCapital(c)) {
                    readElement(c);
                    unitMustCome = false;
                } else if (c == '(' || c == '[') {
                    openGroup(c);
                    unitMustCome = true;
                } else if (depth > 0 && c == closings[depth] && !unitMustCome) {
                    closeGroup();
                } else {
                    more = false;
                }
                more = more && fault == NO_FAULT;
            }
            if (fault == NO_FAULT && (unitMustCome || depth > 0)) {
                meet(SIGN, text.place);
            }
        }

        private void readElement(char capital) {
            char small = text.ahead(1);
            boolean hasSmall = isSmall(small);
            int kind = equation.elementKind(hasSmall ? capital + 256 * small : capital);
            if (kind == NO_KIND) {
                meet(MANY, text.place);
                return;
            }
            text.place += hasSmall ? 2 : 1;
            sums[depth][kind] += readNumber();
        }

        private void openGroup(char opening) {
            if (depth >= MOST_DEPTH) {
                meet(DEEP, text.place);
                return;
            }
            depth++;
            closings[depth] = opening == '(' ? ')' : ']';
            Arrays.fill(sums[depth], 0L);
            text.place++;
        }

        private void closeGroup() {
            text.place++;
            int count = readNumber();
            depth--;
            addTimes(sums[depth], sums[depth + 1], count);
        }

        /** The number that stands here, 1 where none does. */
        private int readNumber() {
            int first = text.place;
            boolean zeroInFront = text.here() == '0';
            int value = 0;
            for (int i = 0; i < MOST_CHARACTERS && isDigit(text.here()); i++) {
                value = 10 * value + (text.here() - '0');
                text.place++;
            }
            int digits = text.place - first;
            if (zeroInFront || digits > 2) {
                meet(NUMBER, first);
            }
            return digits == 0 ? 1 : value;
        }

        private static void addTimes(long[] sum, long[] row, int times) {
            for (int kind = 0; kind < MOST_KINDS; kind++) {
                sum[kind] += times * row[kind];
            }
        }
    }

    /**
     * Finds the free formulas and their bases. The rows are reduced without fractions: every entry
     * stays a minor of the first rows, below 6 thousand million, and no product leaves the longs.
     */
    private static final class Balance {
        final boolean[] dependent = new boolean[MOST_FORMULAS];
        final long[][] bases = new long[MOST_FORMULAS][MOST_FORMULAS];
        int freeCount = 0;
        int verdict = NONE_YET;
        private final long[][] rows = new long[MOST_KINDS][MOST_FORMULAS];
        private final int[] leading = new int[MOST_KINDS];
        private int rank = 0;
        private int height = 0;
        private int width = 0;
        private long pivot = 1;

        void forget() {
            freeCount = 0;
            verdict = NONE_YET;
        }

        void solve(Equation equation) {
            takeRows(equation);
            reduce();
            freeCount = 0;
            for (int i = 0; i < width; i++) {
                if (dependent[i]) {
                    makeBase(bases[freeCount], i);
                    freeCount++;
                }
            }
            verdict = judge();
        }

        private void takeRows(Equation equation) {
            height = equation.kindCount();
            width = equation.formulaCount;
            for (int kind = 0; kind < height; kind++) {
                for (int i = 0; i < width; i++) {
                    rows[kind][i] = equation.share(i, kind, 1);
                }
            }
        }

        /** Afterwards each leading formula's column has the last pivot in its own row, and 0 in all others. */
        private void reduce() {
            rank = 0;
            pivot = 1;
            for (int column = 0; column < width; column++) {
                int row = pivotRow(column);
                dependent[column] = row == NO_ROW;
                if (row != NO_ROW) {
                    swapRows(rank, row);
                    clearColumn(column);
                    leading[rank] = column;
                    rank++;
                }
            }
        }

        private int pivotRow(int column) {
            for (int row = rank; row < height; row++) {
                if (rows[row][column] != 0) {
                    return row;
                }
            }
            return NO_ROW;
        }

        private void swapRows(int one, int other) {
            for (int i = 0; i < width; i++) {
                long kept = rows[one][i];
                rows[one][i] = rows[other][i];
                rows[other][i] = kept;
            }
        }

        private void clearColumn(int column) {
            long earlier = pivot;
            pivot = rows[rank][column];
            for (int row = 0; row < height; row++) {
                long factor = rows[row][column];
                for (int i = 0; i < width && row != rank; i++) {
                    rows[row][i] = quotient(pivot * rows[row][i] - factor * rows[rank][i], earlier);
                }
            }
        }

        private void makeBase(long[] base, int free) {
            Arrays.fill(base, 0L);
            base[free] = pivot;
            for (int row = 0; row < rank; row++) {
                base[leading[row]] = -rows[row][free];
            }
            long divisor = 0;
            for (int i = 0; i < width; i++) {
                divisor = commonDivisor(divisor, base[i]);
            }
            long signed = pivot < 0 ? -divisor : divisor;
            for (int i = 0; i < width; i++) {
                base[i] = quotient(base[i], signed);
            }
        }

        private int judge() {
            if (freeCount == 0) {
                return NONE;
            }
            if (freeCount > 1) {
                return OPEN;
            }
            for (int i = 0; i < width; i++) {
                if (bases[0][i] <= 0) {
                    return MIXED;
                }
            }
            return BALANCED;
        }

        private static long quotient(long value, long divisor) {
            return divisor == 0 ? 0 : value / divisor;
        }

        private static long commonDivisor(long one, long other) {
            long a = Math.abs(one);
            long b = Math.abs(other);
            for (int i = 0; i < MOST_DIVISIONS && b != 0; i++) {
                long rest = a % b;
                a = b;
                b = rest;
            }
            return a;
        }
    }

    /** The balanced equation as it is written, kept apart from the text, which may be typed anew. */
    private static final class Line {
        private final char[] characters = new char[MOST_WRITTEN];
        private int length = 0;

        int characterAt(int i) {
            return i >= 0 && i < length ? characters[i] : NO_CHARACTER;
        }

        void write(Equation equation, Text text, long[] numbers) {
            length = 0;
            for (int i = 0; i < equation.formulaCount; i++) {
                if (i > 0) {
                    addSign(i == equation.reactantCount ? '=' : '+');
                }
                if (numbers[i] != 1) {
                    addNumber(numbers[i]);
                    add(BLANK);
                }
                for (int place = equation.begins[i]; place < equation.ends[i]; place++) {
                    add(text.characters[place]);
                }
            }
        }

        private void add(char c) {
            if (length < MOST_WRITTEN) {
                characters[length] = c;
                length++;
            }
        }

        private void addSign(char sign) {
            add(BLANK);
            add(sign);
            add(BLANK);
        }

        private void addNumber(long number) {
            int first = length;
            long rest = number;
            for (int i = 0; i < MOST_DIGITS && rest > 0; i++) {
                add((char) ('0' + rest % 10));
                rest /= 10;
            }
            turnRound(first);
        }

        /** The digits come from the last one on, and must stand from the first one on. */
        private void turnRound(int first) {
            int last = length - 1;
            for (int i = first; i < last; i++) {
                char kept = characters[i];
                characters[i] = characters[last];
                characters[last] = kept;
                last--;
            }
        }
    }
}
