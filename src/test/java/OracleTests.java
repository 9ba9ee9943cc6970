import java.math.BigInteger;
import java.util.ArrayList;
import java.util.List;
import java.util.Random;

/**
 * Compares the class with a second reading of the document, written apart from it: texts made by a
 * fixed seed, many of them faulty, are read by both, and the bases are held against their definition.
 */
public final class OracleTests {
    private static final int TEXTS = 150_000;
    private static final String ALPHABET = "HOFeNacl0123456789()[].^+-= e~";

    private static int wrong = 0;
    private static final int[] seen = new int[16];

    public static void main(String[] args) {
        Random random = new Random(20261115L);
        String earlier = "A = A";
        for (int i = 0; i < TEXTS && wrong <= 20; i++) {
            String text = i % 3 == 0 ? wide(random) : spoiled(random, equation(random));
            text = text.length() > 100 ? text.substring(0, 100) : text;
            // An object that has read another text already shows what a read leaves behind.
            FormulaScales x = new FormulaScales();
            enter(x, earlier);
            x.read();
            compare(x, text);
            earlier = text;
        }
        for (int kind : new int[] {0, 1, 2, 3, 10, 11, 12, 13, 14}) {
            check("texts", seen[kind] > 100, "enough texts of kind " + kind);
        }
        System.out.println(TEXTS + " texts, " + wrong + " wrong answers");
        if (wrong != 0) {
            System.exit(1);
        }
    }

    private static void check(String text, boolean holds, String what) {
        if (!holds) {
            wrong++;
            System.out.println("'" + text + "': not so: " + what);
        }
    }

    private static void enter(FormulaScales x, String text) {
        for (int i = 0; i < text.length(); i += 8) {
            long more = 0;
            for (int j = i; j < Math.min(i + 8, text.length()); j++) {
                more |= (long) text.charAt(j) << (8 * (j - i));
            }
            x.type(more);
        }
    }

    private static void compare(FormulaScales x, String text) {
        enter(x, text);
        int answer = x.read();
        Parser parser = new Parser(text);
        try {
            parser.equation();
        } catch (Fault fault) {
            seen[8 - fault.code]++;
            check(text, answer == fault.code && x.at() == fault.at,
                    "fault " + fault.code + " at " + fault.at + ", but " + answer + " at " + x.at());
            check(text, x.state() == -1 && x.formulas() == 0 && x.kinds() == 0, "nothing after a fault");
            return;
        }
        int formulas = parser.rows.size();
        check(text, answer == formulas && x.at() == -1, formulas + " formulas, but " + answer + " at " + x.at());
        if (answer == formulas) {
            compareAmounts(x, text, parser);
            compareBases(x, text, parser);
        }
    }

    private static void compareAmounts(FormulaScales x, String text, Parser parser) {
        check(text, x.formulas() == parser.rows.size() && x.kinds() == parser.kinds(), "formulas and kinds");
        for (int i = 0; i < parser.rows.size(); i++) {
            check(text, x.product(i) == (i >= parser.reactants), "product " + i);
        }
        for (int kind = 0; kind < parser.kinds(); kind++) {
            int name = 0;
            if (kind < parser.elements.size()) {
                String element = parser.elements.get(kind);
                name = element.charAt(0) + (element.length() > 1 ? 256 * element.charAt(1) : 0);
            }
            check(text, x.name(kind) == name, "name " + kind);
            for (int i = 0; i < parser.rows.size(); i++) {
                check(text, x.has(i, kind) == parser.amount(i, kind).intValueExact(), "has " + i + ", " + kind);
            }
        }
    }

    private static void compareBases(FormulaScales x, String text, Parser parser) {
        int formulas = parser.rows.size();
        List<Integer> free = new ArrayList<>();
        for (int i = 0; i < formulas; i++) {
            boolean dependent = rank(parser, i + 1) == rank(parser, i);
            check(text, x.free(i) == dependent, "free " + i);
            if (dependent) {
                free.add(i);
            }
        }
        check(text, x.freedom() == free.size(), "freedom");
        long[][] bases = new long[free.size()][formulas];
        for (int k = 0; k < free.size(); k++) {
            for (int i = 0; i < formulas; i++) {
                bases[k][i] = x.number(k, i);
                check(text, !free.contains(i) || i == free.get(k) || bases[k][i] == 0, "0 for other free ones");
            }
            check(text, bases[k][free.get(k)] > 0, "a positive number for the free one");
            checkBase(text, parser, bases[k]);
            if (formulas < 6) {
                compareSolves(x, text, bases[k]);
            }
        }
        int state = state(bases);
        seen[state]++;
        check(text, x.state() == state, "state " + state + ", but " + x.state());
        if (state == FormulaScales.BALANCED) {
            compareWritten(x, text, parser, bases[0]);
        }
    }

    private static void checkBase(String text, Parser parser, long[] base) {
        BigInteger divisor = BigInteger.ZERO;
        for (long number : base) {
            divisor = divisor.gcd(BigInteger.valueOf(number));
        }
        check(text, divisor.equals(BigInteger.ONE), "no common divisor");
        for (int kind = 0; kind < parser.kinds(); kind++) {
            BigInteger left = sum(parser, kind, base, 0, parser.reactants);
            BigInteger right = sum(parser, kind, base, parser.reactants, base.length);
            check(text, left.equals(right), "a solution");
        }
    }

    private static BigInteger sum(Parser parser, int kind, long[] base, int from, int to) {
        BigInteger sum = BigInteger.ZERO;
        for (int i = from; i < to; i++) {
            sum = sum.add(parser.amount(i, kind).multiply(BigInteger.valueOf(base[i])));
        }
        return sum;
    }

    private static int state(long[][] bases) {
        if (bases.length != 1) {
            return bases.length == 0 ? FormulaScales.NONE : FormulaScales.OPEN;
        }
        for (long number : bases[0]) {
            if (number <= 0) {
                return FormulaScales.MIXED;
            }
        }
        return FormulaScales.BALANCED;
    }

    private static void compareWritten(FormulaScales x, String text, Parser parser, long[] base) {
        StringBuilder due = new StringBuilder();
        for (int i = 0; i < base.length; i++) {
            due.append(i == 0 ? "" : i == parser.reactants ? " = " : " + ");
            due.append(base[i] == 1 ? "" : base[i] + " ").append(parser.texts.get(i));
        }
        for (int i = 0; i < due.length(); i++) {
            check(text, x.written(i) == due.charAt(i), "written(" + i + ") of " + due);
        }
        check(text, x.written(due.length()) == -1, "nothing written behind " + due);
        for (int kind = 0; kind < parser.kinds(); kind++) {
            BigInteger weight = sum(parser, kind, base, 0, parser.reactants);
            check(text, x.weight(kind) == weight.longValueExact(), "weight " + kind);
        }
    }

    private static void compareSolves(FormulaScales x, String text, long[] base) {
        int[] n = {7, 7, 7, 7, 7};
        for (int i = 0; i < base.length; i++) {
            n[i] = (int) base[i];
            if (n[i] != base[i]) {
                return;
            }
        }
        check(text, x.solves(n[0], n[1], n[2], n[3], n[4]), "a base solves");
        check(text, !x.solves(n[0] + 1, n[1], n[2], n[3], n[4]), "one more of the first does not");
    }

    /** The rank of the first columns, in big integers, which no product leaves. */
    private static int rank(Parser parser, int columns) {
        int kinds = parser.kinds();
        BigInteger[][] m = new BigInteger[columns][kinds];
        for (int i = 0; i < columns; i++) {
            for (int kind = 0; kind < kinds; kind++) {
                m[i][kind] = parser.amount(i, kind);
            }
        }
        int rank = 0;
        for (int kind = 0; kind < kinds; kind++) {
            int lead = rank;
            while (lead < columns && m[lead][kind].signum() == 0) {
                lead++;
            }
            if (lead == columns) {
                continue;
            }
            BigInteger[] kept = m[lead];
            m[lead] = m[rank];
            m[rank] = kept;
            for (int i = rank + 1; i < columns; i++) {
                BigInteger factor = m[i][kind];
                for (int j = 0; j < kinds; j++) {
                    m[i][j] = m[i][j].multiply(kept[kind]).subtract(kept[j].multiply(factor));
                }
            }
            rank++;
        }
        return rank;
    }

    /** Full rows of great amounts, for great numbers. */
    private static String wide(Random random) {
        StringBuilder text = new StringBuilder();
        int formulas = 2 + random.nextInt(5);
        int sides = 1 + random.nextInt(formulas - 1);
        int kinds = 1 + random.nextInt(5);
        int most = random.nextBoolean() ? 40 : 1 + random.nextInt(6);
        for (int i = 0; i < formulas; i++) {
            text.append(i == 0 ? "" : i == sides ? "=" : "+");
            int begin = text.length();
            for (int kind = 0; kind < kinds; kind++) {
                if (random.nextInt(3) > 0 || text.length() == begin && kind == kinds - 1) {
                    int count = 1 + random.nextInt(most);
                    text.append("ABCDE".charAt(kind)).append(count > 1 ? "" + count : "");
                }
            }
        }
        return text.toString();
    }

    private static String equation(Random random) {
        StringBuilder text = new StringBuilder();
        int formulas = 2 + random.nextInt(random.nextInt(8) == 0 ? 6 : 4);
        int sides = 1 + random.nextInt(formulas - 1);
        for (int i = 0; i < formulas; i++) {
            blanks(random, text);
            text.append(i == 0 ? "" : i == sides ? "=" : "+");
            blanks(random, text);
            if (random.nextInt(12) == 0) {
                text.append("e^-");
            } else {
                formula(random, text);
            }
        }
        blanks(random, text);
        return text.toString();
    }

    private static void blanks(Random random, StringBuilder text) {
        text.append("  ", 0, random.nextInt(8) == 0 ? 2 : random.nextInt(2));
    }

    private static void formula(Random random, StringBuilder text) {
        int parts = random.nextInt(6) == 0 ? 2 : 1;
        for (int i = 0; i < parts; i++) {
            text.append(i == 0 ? "" : ".");
            number(random, text, 8);
            units(random, text, 0);
        }
        if (random.nextInt(5) == 0) {
            text.append('^');
            number(random, text, 2);
            text.append(random.nextBoolean() ? '+' : '-');
        }
    }

    private static void units(Random random, StringBuilder text, int depth) {
        int units = 1 + random.nextInt(2);
        for (int i = 0; i < units; i++) {
            if (random.nextInt(depth == 0 ? 5 : 3) == 0 && depth < 5) {
                boolean round = random.nextBoolean();
                text.append(round ? '(' : '[');
                units(random, text, depth + 1);
                text.append(round ? ')' : ']');
            } else {
                String[] elements = {"H", "O", "H", "O", "Fe", "C", "C", "F", "Na"};
                text.append(elements[random.nextInt(random.nextInt(10) == 0 ? 9 : 7)]);
            }
            number(random, text, 3);
        }
    }

    private static void number(Random random, StringBuilder text, int rare) {
        if (random.nextInt(rare) == 0) {
            text.append(random.nextInt(40) == 0 ? random.nextInt(120) : 1 + random.nextInt(5));
        }
    }

    private static String spoiled(Random random, String equation) {
        StringBuilder text = new StringBuilder(equation);
        int changes = random.nextInt(3) == 0 ? 1 + random.nextInt(2) : 0;
        for (int i = 0; i < changes; i++) {
            int place = random.nextInt(text.length());
            char c = ALPHABET.charAt(random.nextInt(ALPHABET.length()));
            switch (random.nextInt(4)) {
                case 0 -> text.deleteCharAt(place);
                case 1 -> text.setCharAt(place, c);
                case 2 -> text.insert(place, c);
                default -> text.setLength(place + 1);
            }
            if (text.length() == 0) {
                text.append('H');
            }
        }
        return text.toString();
    }

    private static final class Fault extends Exception {
        private static final long serialVersionUID = 1L;
        final int code;
        final int at;

        Fault(int code, int at) {
            super(null, null, false, false);
            this.code = code;
            this.at = at;
        }
    }

    /** What a formula, a part or a group has, by the elements' names. */
    private static final class Bag extends java.util.HashMap<String, BigInteger> {
        private static final long serialVersionUID = 1L;

        void add(String element, BigInteger amount) {
            merge(element, amount, BigInteger::add);
        }

        void add(Bag other, int times) {
            other.forEach((element, amount) -> add(element, amount.multiply(BigInteger.valueOf(times))));
        }
    }

    /** A recursive descent, one method for each term of the document. */
    private static final class Parser {
        final String text;
        int p = 0;
        final List<String> elements = new ArrayList<>();
        boolean charge = false;
        final List<Bag> rows = new ArrayList<>();
        final List<String> texts = new ArrayList<>();
        int reactants = 0;

        Parser(String text) {
            this.text = text;
        }

        int kinds() {
            return elements.size() + (charge ? 1 : 0);
        }

        BigInteger amount(int formula, int kind) {
            String key = kind < elements.size() ? elements.get(kind) : "charge";
            return rows.get(formula).getOrDefault(key, BigInteger.ZERO);
        }

        char look() {
            return p < text.length() ? text.charAt(p) : '\0';
        }

        void fail(int code) throws Fault {
            throw new Fault(code, p);
        }

        void blanks() {
            while (look() == ' ') {
                p++;
            }
        }

        void equation() throws Fault {
            side();
            if (look() != '=') {
                fail(FormulaScales.SIGN);
            }
            p++;
            reactants = rows.size();
            side();
            if (p < text.length()) {
                fail(FormulaScales.SIGN);
            }
        }

        void side() throws Fault {
            formula();
            while (look() == '+') {
                p++;
                formula();
            }
        }

        void formula() throws Fault {
            blanks();
            int begin = p;
            if (rows.size() == 6) {
                fail(FormulaScales.MANY);
            }
            Bag bag = new Bag();
            if (look() == 'e') {
                if (!text.startsWith("e^-", p)) {
                    fail(FormulaScales.SIGN);
                }
                newCharge();
                bag.add("charge", BigInteger.ONE.negate());
                p += 3;
            } else {
                part(bag);
                while (look() == '.') {
                    p++;
                    part(bag);
                }
                if (look() == '^') {
                    charge(bag);
                }
            }
            for (BigInteger amount : bag.values()) {
                if (amount.abs().compareTo(BigInteger.valueOf(40)) > 0) {
                    throw new Fault(FormulaScales.TOO_MUCH, begin);
                }
            }
            rows.add(bag);
            texts.add(text.substring(begin, p));
            blanks();
        }

        void newCharge() throws Fault {
            if (!charge && kinds() == 5) {
                fail(FormulaScales.MANY);
            }
            charge = true;
        }

        void charge(Bag bag) throws Fault {
            newCharge();
            p++;
            int size = number();
            if (look() != '+' && look() != '-') {
                fail(FormulaScales.SIGN);
            }
            bag.add("charge", BigInteger.valueOf(look() == '+' ? size : -size));
            p++;
        }

        void part(Bag bag) throws Fault {
            int factor = number();
            bag.add(units(0), factor);
        }

        Bag units(int depth) throws Fault {
            Bag bag = new Bag();
            int begin = p;
            while (true) {
                char c = look();
                if (c >= 'A' && c <= 'Z') {
                    String element = element();
                    bag.add(element, BigInteger.valueOf(number()));
                } else if (c == '(' || c == '[') {
                    if (depth == 3) {
                        fail(FormulaScales.DEEP);
                    }
                    p++;
                    Bag group = units(depth + 1);
                    if (look() != (c == '(' ? ')' : ']')) {
                        fail(FormulaScales.SIGN);
                    }
                    p++;
                    bag.add(group, number());
                } else if (p == begin) {
                    fail(FormulaScales.SIGN);
                } else {
                    return bag;
                }
            }
        }

        String element() throws Fault {
            int end = p + 1;
            if (end < text.length() && Character.isLowerCase(text.charAt(end))) {
                end++;
            }
            String element = text.substring(p, end);
            if (!elements.contains(element)) {
                if (kinds() == 5) {
                    fail(FormulaScales.MANY);
                }
                elements.add(element);
            }
            p = end;
            return element;
        }

        int number() throws Fault {
            int begin = p;
            while (look() >= '0' && look() <= '9') {
                p++;
            }
            String digits = text.substring(begin, p);
            if (!digits.isEmpty() && !digits.matches("[1-9][0-9]?")) {
                throw new Fault(FormulaScales.NUMBER, begin);
            }
            return digits.isEmpty() ? 1 : Integer.parseInt(digits);
        }
    }
}
