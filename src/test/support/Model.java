import java.math.BigInteger;
import java.util.ArrayList;
import java.util.List;
import java.util.NoSuchElementException;

/** The document's calls once more, as plainly as can be: big integers, strings, and nothing kept that can be asked anew. */
final class Model {
    private String text = "";
    private int at = -1;
    private SecondReader equation = null;
    private final List<Integer> free = new ArrayList<>();
    private final List<BigInteger[]> bases = new ArrayList<>();

    /** The characters that the bytes are, up to the first byte 0. */
    private static String characters(long more) {
        StringBuilder characters = new StringBuilder();
        for (int i = 0; i < 8 && (more >> 8 * i & 255) != 0; i++) {
            characters.append((char) (more >> 8 * i & 255));
        }
        return characters.toString();
    }

    static boolean isForeign(long more) {
        return characters(more).chars().anyMatch(c -> c < 32 || c > 126);
    }

    boolean isTooLong(long more) {
        return text.length() + characters(more).length() > 100;
    }

    int type(long more) {
        if (isForeign(more)) {
            throw new IllegalArgumentException();
        }
        if (isTooLong(more)) {
            throw new UnsupportedOperationException();
        }
        text += characters(more);
        return text.length();
    }

    int read() {
        SecondReader reader = new SecondReader(text);
        text = "";
        free.clear();
        bases.clear();
        try {
            reader.equation();
        } catch (SecondReader.Fault fault) {
            at = fault.at;
            equation = null;
            return fault.code;
        }
        at = -1;
        equation = reader;
        solve();
        return formulas();
    }

    int at() {
        return at;
    }

    int state() {
        if (equation == null) {
            return -1;
        }
        if (bases.size() != 1) {
            return bases.isEmpty() ? 1 : 3;
        }
        for (BigInteger number : bases.get(0)) {
            if (number.signum() <= 0) {
                return 2;
            }
        }
        return 0;
    }

    int freedom() {
        return equation == null ? -1 : bases.size();
    }

    int formulas() {
        return equation == null ? 0 : equation.rows.size();
    }

    int kinds() {
        return equation == null ? 0 : equation.kinds();
    }

    int name(int kind) {
        mustBeBelow(kind, kinds());
        if (kind == equation.elements.size()) {
            return 0;
        }
        String element = equation.elements.get(kind);
        return element.charAt(0) + (element.length() == 2 ? 256 * element.charAt(1) : 0);
    }

    int has(int formula, int kind) {
        mustBeBelow(formula, formulas());
        mustBeBelow(kind, kinds());
        return equation.amount(formula, kind).intValueExact();
    }

    boolean product(int formula) {
        mustBeBelow(formula, formulas());
        return formula >= equation.reactants;
    }

    boolean free(int formula) {
        mustBeBelow(formula, formulas());
        return free.contains(formula);
    }

    long number(int base, int formula) {
        mustBeBelow(base, bases.size());
        mustBeBelow(formula, formulas());
        return bases.get(base)[formula].longValueExact();
    }

    long weight(int kind) {
        mustBeBelow(kind, kinds());
        mustBeBalanced();
        BigInteger sum = BigInteger.ZERO;
        for (int i = 0; i < equation.reactants; i++) {
            sum = sum.add(bases.get(0)[i].multiply(equation.amount(i, kind)));
        }
        return sum.longValueExact();
    }

    int written(int i) {
        mustBeBalanced();
        String line = "";
        for (int f = 0; f < formulas(); f++) {
            line += f == 0 ? "" : f == equation.reactants ? " = " : " + ";
            BigInteger number = bases.get(0)[f];
            line += (number.equals(BigInteger.ONE) ? "" : number + " ") + equation.texts.get(f);
        }
        return i >= 0 && i < line.length() ? line.charAt(i) : -1;
    }

    boolean solves(int... numbers) {
        if (formulas() == 0 || formulas() == 6) {
            throw new IllegalStateException();
        }
        for (int kind = 0; kind < kinds(); kind++) {
            BigInteger sum = BigInteger.ZERO;
            for (int i = 0; i < formulas(); i++) {
                sum = sum.add(signed(i, kind).multiply(BigInteger.valueOf(numbers[i])));
            }
            if (sum.signum() != 0) {
                return false;
            }
        }
        return true;
    }

    private static void mustBeBelow(int i, int bound) {
        if (i < 0 || i >= bound) {
            throw new NoSuchElementException();
        }
    }

    private void mustBeBalanced() {
        if (state() != 0) {
            throw new IllegalStateException();
        }
    }

    private BigInteger signed(int formula, int kind) {
        BigInteger amount = equation.amount(formula, kind);
        return formula >= equation.reactants ? amount.negate() : amount;
    }

    private void solve() {
        BigInteger[][] rows = new BigInteger[kinds()][formulas()];
        for (int kind = 0; kind < kinds(); kind++) {
            for (int i = 0; i < formulas(); i++) {
                rows[kind][i] = signed(i, kind);
            }
        }
        List<Integer> leading = new ArrayList<>();
        for (int i = 0; i < formulas(); i++) {
            int row = leading.size();
            while (row < kinds() && rows[row][i].signum() == 0) {
                row++;
            }
            if (row == kinds()) {
                free.add(i);
            } else {
                clear(rows, leading.size(), row, i);
                leading.add(i);
            }
        }
        for (int f : free) {
            bases.add(base(rows, leading, f));
        }
    }

    /** Brings a row to its place, and takes its column out of all other rows. */
    private void clear(BigInteger[][] rows, int place, int row, int column) {
        BigInteger[] lead = rows[row];
        rows[row] = rows[place];
        rows[place] = lead;
        for (int other = 0; other < rows.length; other++) {
            BigInteger factor = rows[other][column];
            for (int i = 0; i < formulas() && other != place; i++) {
                rows[other][i] = rows[other][i].multiply(lead[column]).subtract(lead[i].multiply(factor));
            }
        }
    }

    private BigInteger[] base(BigInteger[][] rows, List<Integer> leading, int f) {
        BigInteger multiple = BigInteger.ONE;
        for (int row = 0; row < leading.size(); row++) {
            multiple = multiple.multiply(rows[row][leading.get(row)].abs());
        }
        BigInteger[] base = new BigInteger[formulas()];
        java.util.Arrays.fill(base, BigInteger.ZERO);
        base[f] = multiple;
        BigInteger divisor = multiple;
        for (int row = 0; row < leading.size(); row++) {
            int i = leading.get(row);
            base[i] = rows[row][f].negate().multiply(multiple).divide(rows[row][i]);
            divisor = divisor.gcd(base[i]);
        }
        for (int i = 0; i < base.length; i++) {
            base[i] = base[i].divide(divisor);
        }
        return base;
    }
}
