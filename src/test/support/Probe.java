/** What the tests share: typing and reading a text, asking, and counting the answers that are not due. */
abstract class Probe {
    static final int S = FormulaScales.SIGN, N = FormulaScales.NUMBER, D = FormulaScales.DEEP;
    static final int M = FormulaScales.MANY, T = FormulaScales.TOO_MUCH;
    static final String NO_SUCH = "NoSuchElementException", STATE = "IllegalStateException";
    static final String ARGUMENT = "IllegalArgumentException", SUPPORT = "UnsupportedOperationException";

    private static final int MOST_TOLD = 50;
    private static String sentence = "";
    private static int checks = 0;
    private static int wrong = 0;

    interface Call {
        Object answer();
    }

    /** The words that the next checks hold the class to. */
    static void sentence(String words) {
        sentence = words;
    }

    /** The call's answer, or the name of what it throws. */
    static Object answerOf(Call call) {
        try {
            return call.answer();
        } catch (RuntimeException e) {
            return e.getClass().getSimpleName();
        }
    }

    static void is(String what, Object want, Call call) {
        checks++;
        Object got = answerOf(call);
        if (!want.equals(got)) {
            wrong++;
        }
        if (!want.equals(got) && wrong <= MOST_TOLD) {
            System.out.println((sentence.isEmpty() ? "" : "[" + sentence + "] ")
                    + what + " answered " + got + ", due is " + want);
        }
    }

    static void end() {
        System.out.println((checks - wrong) + " checks hold, " + wrong + " do not");
        if (wrong != 0) {
            System.exit(1);
        }
    }

    static long packed(String characters) {
        long more = 0;
        for (int i = 0; i < characters.length(); i++) {
            more |= (characters.charAt(i) & 255L) << (8 * i);
        }
        return more;
    }

    static void enter(FormulaScales x, String text) {
        for (int i = 0; i < text.length(); i += 8) {
            x.type(packed(text.substring(i, Math.min(i + 8, text.length()))));
        }
    }

    static int readAnew(FormulaScales x, String text) {
        enter(x, text);
        return x.read();
    }

    static FormulaScales after(String text) {
        FormulaScales x = new FormulaScales();
        readAnew(x, text);
        return x;
    }

    static void reads(String text, int answer, int at) {
        FormulaScales x = new FormulaScales();
        enter(x, text);
        is("read of '" + text + "'", answer, x::read);
        is("at of '" + text + "'", at, x::at);
    }

    static void reads(String text, int formulas) {
        reads(text, formulas, -1);
    }

    static String line(FormulaScales x) {
        StringBuilder line = new StringBuilder();
        for (int i = 0; i < 1000 && x.written(i) != -1; i++) {
            line.append((char) x.written(i));
        }
        return line.toString();
    }

    static void hasNoEquation(FormulaScales x) {
        is("state without an equation", FormulaScales.NONE_YET, x::state);
        is("freedom without an equation", FormulaScales.NONE_YET, x::freedom);
        is("formulas without an equation", 0, x::formulas);
        is("kinds without an equation", 0, x::kinds);
        is("name without an equation", NO_SUCH, () -> x.name(0));
        is("has without an equation", NO_SUCH, () -> x.has(0, 0));
        is("product without an equation", NO_SUCH, () -> x.product(0));
        is("free without an equation", NO_SUCH, () -> x.free(0));
        is("number without an equation", NO_SUCH, () -> x.number(0, 0));
        is("weight without an equation", NO_SUCH, () -> x.weight(0));
        is("written without an equation", STATE, () -> x.written(0));
        is("written(-1) without an equation", STATE, () -> x.written(-1));
        is("solves without an equation", STATE, () -> x.solves(0, 0, 0, 0, 0));
    }
}
