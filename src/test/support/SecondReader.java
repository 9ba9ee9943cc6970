import java.math.BigInteger;
import java.util.ArrayList;
import java.util.List;

/** Reads an equation as the document says, apart from the class: a recursive descent, a method for each term. */
final class SecondReader {
    final String text;
    int p = 0;
    final List<String> elements = new ArrayList<>();
    boolean charge = false;
    final List<Bag> rows = new ArrayList<>();
    final List<String> texts = new ArrayList<>();
    int reactants = 0;

    SecondReader(String text) {
        this.text = text;
    }

    int kinds() {
        return elements.size() + (charge ? 1 : 0);
    }

    BigInteger amount(int formula, int kind) {
        String key = kind < elements.size() ? elements.get(kind) : "charge";
        return rows.get(formula).getOrDefault(key, BigInteger.ZERO);
    }

    char look() {
        return p < text.length() ? text.charAt(p) : '\0';
    }

    void fail(int code) throws Fault {
        throw new Fault(code, p);
    }

    void blanks() {
        while (look() == ' ') {
            p++;
        }
    }

    void equation() throws Fault {
        side();
        if (look() != '=') {
            fail(FormulaScales.SIGN);
        }
        p++;
        reactants = rows.size();
        side();
        if (p < text.length()) {
            fail(FormulaScales.SIGN);
        }
    }

    void side() throws Fault {
        formula();
        while (look() == '+') {
            p++;
            formula();
        }
    }

    void formula() throws Fault {
        blanks();
        int begin = p;
        if (rows.size() == 6) {
            fail(FormulaScales.MANY);
        }
        Bag bag = new Bag();
        if (look() == 'e') {
            if (!text.startsWith("e^-", p)) {
                fail(FormulaScales.SIGN);
            }
            newCharge();
            bag.add("charge", BigInteger.ONE.negate());
            p += 3;
        } else {
            part(bag);
            while (look() == '.') {
                p++;
                part(bag);
            }
            if (look() == '^') {
                charge(bag);
            }
        }
        for (BigInteger amount : bag.values()) {
            if (amount.abs().compareTo(BigInteger.valueOf(40)) > 0) {
                throw new Fault(FormulaScales.TOO_MUCH, begin);
            }
        }
        rows.add(bag);
        texts.add(text.substring(begin, p));
        blanks();
    }

    void newCharge() throws Fault {
        if (!charge && kinds() == 5) {
            fail(FormulaScales.MANY);
        }
        charge = true;
    }

    void charge(Bag bag) throws Fault {
        newCharge();
        p++;
        int size = number();
        if (look() != '+' && look() != '-') {
            fail(FormulaScales.SIGN);
        }
        bag.add("charge", BigInteger.valueOf(look() == '+' ? size : -size));
        p++;
    }

    void part(Bag bag) throws Fault {
        int factor = number();
        bag.add(units(0), factor);
    }

    Bag units(int depth) throws Fault {
        Bag bag = new Bag();
        int begin = p;
        while (true) {
            char c = look();
            if (c >= 'A' && c <= 'Z') {
                String element = element();
                bag.add(element, BigInteger.valueOf(number()));
            } else if (c == '(' || c == '[') {
                if (depth == 3) {
                    fail(FormulaScales.DEEP);
                }
                p++;
                Bag group = units(depth + 1);
                if (look() != (c == '(' ? ')' : ']')) {
                    fail(FormulaScales.SIGN);
                }
                p++;
                bag.add(group, number());
            } else if (p == begin) {
                fail(FormulaScales.SIGN);
            } else {
                return bag;
            }
        }
    }

    String element() throws Fault {
        int end = p + 1;
        if (end < text.length() && Character.isLowerCase(text.charAt(end))) {
            end++;
        }
        String element = text.substring(p, end);
        if (!elements.contains(element)) {
            if (kinds() == 5) {
                fail(FormulaScales.MANY);
            }
            elements.add(element);
        }
        p = end;
        return element;
    }

    int number() throws Fault {
        int begin = p;
        while (look() >= '0' && look() <= '9') {
            p++;
        }
        String digits = text.substring(begin, p);
        if (!digits.isEmpty() && !digits.matches("[1-9][0-9]?")) {
            throw new Fault(FormulaScales.NUMBER, begin);
        }
        return digits.isEmpty() ? 1 : Integer.parseInt(digits);
    }

    static final class Fault extends Exception {
        private static final long serialVersionUID = 1L;
        final int code;
        final int at;

        Fault(int code, int at) {
            super(null, null, false, false);
            this.code = code;
            this.at = at;
        }
    }

    /** What a formula, a part or a group has, by the elements' names. */
    static final class Bag extends java.util.HashMap<String, BigInteger> {
        private static final long serialVersionUID = 1L;

        void add(String element, BigInteger amount) {
            merge(element, amount, BigInteger::add);
        }

        void add(Bag other, int times) {
            other.forEach((element, amount) -> add(element, amount.multiply(BigInteger.valueOf(times))));
        }
    }
}
