import java.math.BigInteger;
import java.util.ArrayList;
import java.util.List;
import java.util.Random;

/**
 * Compares the class with a second reading of the document, written apart from it: texts made by a
 * fixed seed, many of them faulty, are read by both, and the bases are held against their definition.
 */
public final class OracleTests extends Probe {
    private static final int TEXTS = 150_000;
    // One or two of each sort of character that the document tells apart.
    private static final String SORTS = "AaBe0129()[].^+-= ~";
    private static final String[] FRONTS = {
        "", "A", "A=", "A=A", "A^", "A^2", "e^-", "e^-=", "(((A", "[([A])", "A.", "2A.3B", "A40", "A41", "A41.",
        "A^41", "ABCDE", "ABCD^+=", "ABCDE=A+", "ABCDE=", "ABCD^+", "A+A+A+A+A=A", "A+A+A+A+A=", "A+A+A+A+A+A"
    };

    private static int wrong = 0;
    private static final int[] seen = new int[16];

    public static void main(String[] args) {
        int texts = shortTexts();
        madeTexts(new Random(20261115L));
        for (int kind : new int[] {0, 1, 2, 3, 10, 11, 12, 13, 14}) {
            check("texts", seen[kind] > 100, "enough texts of kind " + kind);
        }
        System.out.println((texts + TEXTS) + " texts, " + wrong + " wrong answers");
        if (wrong != 0) {
            System.exit(1);
        }
    }

    private static void madeTexts(Random random) {
        String earlier = "A = A";
        for (int i = 0; i < TEXTS && wrong <= 20; i++) {
            String text = Texts.any(random);
            // An object that has read another text already shows what a read leaves behind.
            compare(after(earlier), text);
            earlier = text;
        }
    }

    /** Each front with every way to go on for up to three characters, with and without more behind. */
    private static int shortTexts() {
        int texts = 0;
        int ways = SORTS.length() + 1;
        for (String front : FRONTS) {
            for (int i = 0; i < ways * ways * ways && wrong <= 20; i++) {
                String text = front + sort(i / ways / ways) + sort(i / ways % ways) + sort(i % ways);
                compare(new FormulaScales(), text);
                compare(new FormulaScales(), text + "=A");
                texts += 2;
            }
        }
        return texts;
    }

    private static String sort(int i) {
        return i == 0 ? "" : SORTS.substring(i - 1, i);
    }

    private static void check(String text, boolean holds, String what) {
        if (!holds) {
            wrong++;
            System.out.println("'" + text + "': not so: " + what);
        }
    }

    private static void compare(FormulaScales x, String text) {
        int answer = readAnew(x, text);
        SecondReader reader = new SecondReader(text);
        try {
            reader.equation();
        } catch (SecondReader.Fault fault) {
            seen[8 - fault.code]++;
            check(text, answer == fault.code && x.at() == fault.at,
                    "fault " + fault.code + " at " + fault.at + ", but " + answer + " at " + x.at());
            check(text, x.state() == -1 && x.formulas() == 0 && x.kinds() == 0, "nothing after a fault");
            return;
        }
        int formulas = reader.rows.size();
        check(text, answer == formulas && x.at() == -1, formulas + " formulas, but " + answer + " at " + x.at());
        if (answer == formulas) {
            compareAmounts(x, text, reader);
            compareBases(x, text, reader);
        }
    }

    private static void compareAmounts(FormulaScales x, String text, SecondReader reader) {
        check(text, x.formulas() == reader.rows.size() && x.kinds() == reader.kinds(), "formulas and kinds");
        for (int i = 0; i < reader.rows.size(); i++) {
            check(text, x.product(i) == (i >= reader.reactants), "product " + i);
        }
        for (int kind = 0; kind < reader.kinds(); kind++) {
            int name = 0;
            if (kind < reader.elements.size()) {
                String element = reader.elements.get(kind);
                name = element.charAt(0) + (element.length() > 1 ? 256 * element.charAt(1) : 0);
            }
            check(text, x.name(kind) == name, "name " + kind);
            for (int i = 0; i < reader.rows.size(); i++) {
                check(text, x.has(i, kind) == reader.amount(i, kind).intValueExact(), "has " + i + ", " + kind);
            }
        }
    }

    private static void compareBases(FormulaScales x, String text, SecondReader reader) {
        int formulas = reader.rows.size();
        List<Integer> free = new ArrayList<>();
        for (int i = 0; i < formulas; i++) {
            boolean dependent = rank(reader, i + 1) == rank(reader, i);
            check(text, x.free(i) == dependent, "free " + i);
            if (dependent) {
                free.add(i);
            }
        }
        check(text, x.freedom() == free.size(), "freedom");
        long[][] bases = new long[free.size()][formulas];
        for (int k = 0; k < free.size(); k++) {
            for (int i = 0; i < formulas; i++) {
                bases[k][i] = x.number(k, i);
                check(text, !free.contains(i) || i == free.get(k) || bases[k][i] == 0, "0 for other free ones");
            }
            check(text, bases[k][free.get(k)] > 0, "a positive number for the free one");
            checkBase(text, reader, bases[k]);
            if (formulas < 6) {
                compareSolves(x, text, bases[k]);
            }
        }
        int state = state(bases);
        seen[state]++;
        check(text, x.state() == state, "state " + state + ", but " + x.state());
        if (state == FormulaScales.BALANCED) {
            compareWritten(x, text, reader, bases[0]);
        }
    }

    private static void checkBase(String text, SecondReader reader, long[] base) {
        BigInteger divisor = BigInteger.ZERO;
        for (long number : base) {
            divisor = divisor.gcd(BigInteger.valueOf(number));
        }
        check(text, divisor.equals(BigInteger.ONE), "no common divisor");
        for (int kind = 0; kind < reader.kinds(); kind++) {
            BigInteger left = sum(reader, kind, base, 0, reader.reactants);
            BigInteger right = sum(reader, kind, base, reader.reactants, base.length);
            check(text, left.equals(right), "a solution");
        }
    }

    private static BigInteger sum(SecondReader reader, int kind, long[] base, int from, int to) {
        BigInteger sum = BigInteger.ZERO;
        for (int i = from; i < to; i++) {
            sum = sum.add(reader.amount(i, kind).multiply(BigInteger.valueOf(base[i])));
        }
        return sum;
    }

    private static int state(long[][] bases) {
        if (bases.length != 1) {
            return bases.length == 0 ? FormulaScales.NONE : FormulaScales.OPEN;
        }
        for (long number : bases[0]) {
            if (number <= 0) {
                return FormulaScales.MIXED;
            }
        }
        return FormulaScales.BALANCED;
    }

    private static void compareWritten(FormulaScales x, String text, SecondReader reader, long[] base) {
        StringBuilder due = new StringBuilder();
        for (int i = 0; i < base.length; i++) {
            due.append(i == 0 ? "" : i == reader.reactants ? " = " : " + ");
            due.append(base[i] == 1 ? "" : base[i] + " ").append(reader.texts.get(i));
        }
        for (int i = 0; i < due.length(); i++) {
            check(text, x.written(i) == due.charAt(i), "written(" + i + ") of " + due);
        }
        check(text, x.written(due.length()) == -1, "nothing written behind " + due);
        for (int kind = 0; kind < reader.kinds(); kind++) {
            BigInteger weight = sum(reader, kind, base, 0, reader.reactants);
            check(text, x.weight(kind) == weight.longValueExact(), "weight " + kind);
        }
    }

    private static void compareSolves(FormulaScales x, String text, long[] base) {
        int[] n = {7, 7, 7, 7, 7};
        for (int i = 0; i < base.length; i++) {
            n[i] = (int) base[i];
            if (n[i] != base[i]) {
                return;
            }
        }
        check(text, x.solves(n[0], n[1], n[2], n[3], n[4]), "a base solves");
        check(text, !x.solves(n[0] + 1, n[1], n[2], n[3], n[4]), "one more of the first does not");
    }

    /** The rank of the first columns, in big integers, which no product leaves. */
    private static int rank(SecondReader reader, int columns) {
        int kinds = reader.kinds();
        BigInteger[][] m = new BigInteger[columns][kinds];
        for (int i = 0; i < columns; i++) {
            for (int kind = 0; kind < kinds; kind++) {
                m[i][kind] = reader.amount(i, kind);
            }
        }
        int rank = 0;
        for (int kind = 0; kind < kinds; kind++) {
            int lead = rank;
            while (lead < columns && m[lead][kind].signum() == 0) {
                lead++;
            }
            if (lead == columns) {
                continue;
            }
            BigInteger[] kept = m[lead];
            m[lead] = m[rank];
            m[rank] = kept;
            for (int i = rank + 1; i < columns; i++) {
                BigInteger factor = m[i][kind];
                for (int j = 0; j < kinds; j++) {
                    m[i][j] = m[i][j].multiply(kept[kind]).subtract(kept[j].multiply(factor));
                }
            }
            rank++;
        }
        return rank;
    }
}
