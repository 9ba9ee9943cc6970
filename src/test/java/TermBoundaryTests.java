/**
 * The sentences under the document's "Terms" that name a boundary case, each with a test of its own, in
 * the document's order: what is just inside the boundary, and what is just outside.
 */
public final class TermBoundaryTests extends Probe {
    private static final char FIRST = 32, LAST = 126;

    public static void main(String[] args) {
        textOfAtMost100();
        charactersFrom32To126();
        blanksAroundSignsAndFormulas();
        blanksNowhereElse();
        equationHasOneEquals();
        sideHasOneOrMoreFormulas();
        atMostSixFormulas();
        productsStandBehindTheEquals();
        partsHaveAPointBetween();
        factorThenOneOrMoreUnits();
        countIsOneWithout();
        atMostOneSmallLetter();
        groupsHoldOneOrMoreUnits();
        groupsLieAtMostThreeDeep();
        chargeStandsAtTheEnd();
        electronInsteadOfAllThis();
        numbersAre1To99();
        formulaHasTheSumOverItsUnits();
        kindsInTheirOrder();
        atMostFiveKinds();
        firstFaultCounts();
        endWhereMoreMustCome();
        bracketsThatDoNotFit();
        electronFault();
        everyCharacterInItsPlace();
        everyCharacterBehindTheEquals();
        numberIsMetAtItsFirstDigit();
        digitsElsewhereAreASign();
        deepIsMetAtItsBracket();
        seventhFormulaIsMetWhereItMustStand();
        sixthKindIsMet();
        tooMuchOfAnElement();
        tooMuchCharge();
        tooMuchIsNotHiddenByWrappingRound();
        tooMuchIsMetWhenAllHasBeenRead();
        productsCountWithAMinus();
        freedomFrom0To5();
        freeFormulasDependOnLesserOnes();
        basesForEachFreeFormula();
        basesHaveNoCommonDivisor();
        statesAtTheirBorders();
        noEquationAtFirst();
        noEquationAfterAFault();
        end();
    }

    private static String times(String piece, int times) {
        return piece.repeat(times);
    }

    private static void textOfAtMost100() {
        sentence("TEXT is a row of at most 100 characters");
        reads("H=H" + times(" ", 97), 2);
        reads(times(" ", 97) + "H=H", 2);
        reads(times("H", 40) + "=" + times("H", 40) + "+" + times("O", 18), 3);
        reads("H=" + times(" ", 97) + "h", S, 99);
        reads("H=" + times(" ", 98), S, 100);
        reads(times(" ", 100), S, 100);
        reads("H=(" + times("H", 97), S, 100);
        reads("H=H." + times("H", 96), T, 2);
        FormulaScales x = new FormulaScales();
        enter(x, times("H", 99));
        is("the hundredth character", 100, () -> x.type('H'));
        is("the hundred and first", SUPPORT, () -> x.type('H'));
    }

    private static void charactersFrom32To126() {
        sentence("TEXT is a row of at most 100 characters, 32 .. 126");
        for (int code = 1; code <= 255; code++) {
            long more = code;
            Object due = code >= FIRST && code <= LAST ? (Object) 1 : ARGUMENT;
            is("type(" + code + ")", due, () -> new FormulaScales().type(more));
        }
    }

    private static void blanksAroundSignsAndFormulas() {
        sentence("BLANKS may stand before and behind SIGNS and formulas, and mean nothing");
        String[] pieces = {"A", "+", "e^-", "+", "B2^+", "=", "(AB)2", "+", "B"};
        for (int i = 0; i <= pieces.length; i++) {
            for (int blanks = 1; blanks <= 3; blanks++) {
                StringBuilder text = new StringBuilder();
                for (int j = 0; j <= pieces.length; j++) {
                    text.append(j == i ? times(" ", blanks) : "").append(j < pieces.length ? pieces[j] : "");
                }
                reads(text.toString(), 5);
            }
        }
        reads("  A  +  e^-  +  B2^+  =  (AB)2  +  B  ", 5);
        FormulaScales x = after("  A2  =  A  ");
        is("a blank is no kind", 1, x::kinds);
        is("numbers are the same with blanks", 2L, () -> x.number(0, 1));
    }

    private static void blanksNowhereElse() {
        sentence("BLANKS may stand .. nowhere else");
        String formula = "2A3(B2[CA]3)2.5D2^3-";
        // Where the formula could end before the blank, what stands behind the blank is met, else the blank.
        int[] met = {1, 3, 4, 4, 5, 6, 7, 8, 9, 10, 11, 13, 14, 14, 15, 17, 18, 18, 19};
        for (int i = 1; i < formula.length(); i++) {
            reads(formula.substring(0, i) + " " + formula.substring(i) + "=A", S, met[i - 1]);
        }
        reads(formula + "=A", 2);
        reads("F e=A", S, 2);
        reads("e ^-=A", S, 0);
        reads("e^ -=A", S, 0);
        reads("A1 2=A", S, 3);
        reads("A A=A", S, 2);
        reads("A= =A", S, 3);
        reads("A+ +A=A", S, 3);
    }

    private static void equationHasOneEquals() {
        sentence("An EQUATION is a side, the sign = , a side, up to the end of the text");
        reads("A=A", 2);
        reads("A", S, 1);
        reads("A+A", S, 3);
        reads("A=A=A", S, 3);
        reads("A=A+A=A", S, 5);
        reads("A==A", S, 2);
        reads("A=", S, 2);
        reads("=A", S, 0);
        reads("=", S, 0);
        reads("A=A;", S, 3);
        reads("A=A ;", S, 4);
    }

    private static void sideHasOneOrMoreFormulas() {
        sentence("A SIDE is one or more FORMULAS with the sign + between two of them");
        reads("A=A+A+A", 4);
        reads("A+A+A=A", 4);
        reads("+A=A", S, 0);
        reads("A+=A", S, 2);
        reads("A++A=A", S, 2);
        reads("A=+A", S, 2);
        reads("A=A+", S, 4);
        reads("A=A++A", S, 4);
        reads("A-A=A", S, 1);
    }

    private static String equation(int left, int right) {
        return "A" + times("+A", left - 1) + "=A" + times("+A", right - 1);
    }

    private static void atMostSixFormulas() {
        sentence("There are at most 6 formulas in all");
        for (int left = 1; left <= 6; left++) {
            for (int right = 1; left + right <= 7; right++) {
                int all = left + right;
                reads(equation(left, right), all <= 6 ? all : M, all <= 6 ? -1 : 12);
            }
        }
        reads(equation(1, 7), M, 12);
        reads(equation(9, 1), M, 12);
    }

    private static void productsStandBehindTheEquals() {
        sentence("numbered 0, 1, .. in their order; those behind the = are PRODUCTS");
        for (int left = 1; left <= 5; left++) {
            FormulaScales x = after(equation(left, 6 - left));
            for (int i = 0; i < 6; i++) {
                int formula = i;
                is("product " + i + " behind " + left, i >= left, () -> x.product(formula));
            }
        }
        FormulaScales x = after("A+A2+A3=A4+A5+A6");
        for (int i = 0; i < 6; i++) {
            int formula = i;
            is("the order of formula " + i, i + 1, () -> x.has(formula, 0));
        }
    }

    private static void partsHaveAPointBetween() {
        sentence("A FORMULA is one or more PARTS with a . between two of them");
        reads("A.B=A", 2);
        reads("A.B.A.B.A=A", 2);
        reads(times("A.", 39) + "A=A", 2);
        reads(times("A.", 40) + "A=A", T, 0);
        reads(".A=A", S, 0);
        reads("A.=A", S, 2);
        reads("A..A=A", S, 2);
        reads("A=A.", S, 4);
        reads("(A.A)=A", S, 2);
    }

    private static void factorThenOneOrMoreUnits() {
        sentence("A part is perhaps a number, its FACTOR (1 without), then one or more UNITS");
        FormulaScales x = after("AB2 = 1AB2 + 2AB2 + 3A.B");
        is("no factor", 1, () -> x.has(0, 0));
        is("the factor 1", 2, () -> x.has(1, 1));
        is("the factor 2", 4, () -> x.has(2, 1));
        is("a factor for its own part", 3, () -> x.has(3, 0));
        is("the part behind it has none", 1, () -> x.has(3, 1));
        reads("2=A", S, 1);
        reads("2", S, 1);
        reads("A.2=A", S, 3);
        reads("2.A=A", S, 1);
        reads("2^+=A", S, 1);
        reads("A=2", S, 3);
    }

    private static void countIsOneWithout() {
        sentence("A unit is an ELEMENT or a GROUP, then perhaps a number, its COUNT (1 without)");
        FormulaScales x = after("A(B)=A1(B)1+A2(B)2+A(B3)+A4B4");
        is("an element without a count", 1, () -> x.has(0, 0));
        is("a group without a count", 1, () -> x.has(0, 1));
        is("an element's count 1", 1, () -> x.has(1, 0));
        is("a group's count 1", 1, () -> x.has(1, 1));
        is("an element's count 2", 2, () -> x.has(2, 0));
        is("a group's count 2", 2, () -> x.has(2, 1));
        is("a count within a group", 3, () -> x.has(3, 1));
        is("the count of the last unit", 4, () -> x.has(4, 1));
    }

    private static void atMostOneSmallLetter() {
        sentence("An ELEMENT is a capital letter and at most one small letter behind it");
        reads("A=A", 2);
        reads("Aa=Aa", 2);
        reads("Aaa=Aa", S, 2);
        reads("a=A", S, 0);
        reads("A2a=A", S, 2);
        reads("(A)a=A", S, 3);
        String[] names = {"A", "Z", "Aa", "Az", "Za", "Zz", "E", "Ee"};
        for (String element : names) {
            FormulaScales x = after(element + "=B" + element);
            int small = element.length() > 1 ? element.charAt(1) : 0;
            is("kinds with " + element, 2, x::kinds);
            is("name of " + element, element.charAt(0) + 256 * small, () -> x.name(0));
        }
        // What stands beside the letters in the code is no letter.
        reads("@=A", S, 0);
        reads("A@=A", S, 1);
        reads("A`=A", S, 1);
        reads("A{=A", S, 1);
        reads("[A=A", S, 2);
    }

    private static void groupsHoldOneOrMoreUnits() {
        sentence("A GROUP is ( , units (one or more), ) , or the same with [ and ]");
        reads("(A)=[A]", 2);
        reads("(AB)=[AB]", 2);
        reads("((A)B[A])=A", 2);
        reads("()=A", S, 1);
        reads("[]=A", S, 1);
        reads("(())=A", S, 2);
        reads("A()=A", S, 2);
        reads("()2=A", S, 1);
        reads("(2)=A", S, 1);
        reads("(2A)=A", S, 1);
        reads("(A^+)=A", S, 2);
    }

    private static void groupsLieAtMostThreeDeep() {
        sentence("groups lie at most 3 deep in one another");
        for (int brackets = 0; brackets < 16; brackets++) {
            StringBuilder opening = new StringBuilder();
            StringBuilder closing = new StringBuilder();
            for (int i = 0; i < 4; i++) {
                boolean round = (brackets >> i & 1) == 0;
                opening.append(round ? '(' : '[');
                closing.insert(0, round ? ')' : ']');
            }
            reads(opening.substring(0, 3) + "A" + closing.substring(1) + "=A", 2);
            reads(opening + "A" + closing + "=A", D, 3);
        }
        reads("(((A)))(((A)))=A", 2);
        reads("(((A)(A))(A(A)))=A", 2);
        reads("(((A))).(((A)))=(((A)))", 2);
        reads("(((A)(A[A])))=A", D, 7);
        reads("(((A)))((((A))))=A", D, 10);
    }

    private static void chargeStandsAtTheEnd() {
        sentence("then perhaps a CHARGE: ^ , perhaps a number (1 without), then + or -");
        FormulaScales x = after("A^+ + A^- = A^1+ + A^2- + A");
        int[] charges = {1, -1, 1, -2, 0};
        for (int i = 0; i < charges.length; i++) {
            int formula = i;
            is("the charge of formula " + i, charges[i], () -> x.has(formula, 1));
        }
        reads("A^=A", S, 2);
        reads("A^2=A", S, 3);
        reads("A^", S, 2);
        reads("A^2", S, 3);
        reads("A^+^+=A", S, 3);
        reads("A^+-=A", S, 3);
        reads("A^-+=A", S, 4);
        reads("A^+A=A", S, 3);
        reads("A^+.A=A", S, 3);
        reads("A^+2=A", S, 3);
        reads("^+=A", S, 0);
        reads("A.^+=A", S, 2);
    }

    private static void electronInsteadOfAllThis() {
        sentence("a formula may be e^- , which has nothing but the charge -1");
        FormulaScales x = after("A + e^- = A^-");
        is("e^- has no element", 0, () -> x.has(1, 0));
        is("e^- has the charge -1", -1, () -> x.has(1, 1));
        FormulaScales y = after("e^-=e^-");
        is("e^- alone has one kind", 1, y::kinds);
        is("that is the charge", 0, () -> y.name(0));
        reads("2e^-=A", S, 1);
        reads("(e^-)=A", S, 1);
        reads("e^-2=A", S, 3);
        reads("e^-^-=A", S, 3);
        reads("e^-.A=A", S, 3);
        reads("A.e^-=A", S, 2);
        reads("Ae^-=Ae", 2);
    }

    /** A number is tried in each of the four places where one may stand. */
    private static void numberInEachPlace(String digits, int fault, int due) {
        String[] before = {"", "A", "(A)", "A^", "A^", "B.", "(B2(A"};
        String[] behind = {"A", "", "", "+", "-", "A", "))"};
        int[] kind = {0, 0, 0, 1, 1, 1, 1};
        int[] sign = {1, 1, 1, 1, -1, 1, 1};
        for (int i = 0; i < before.length; i++) {
            int place = i;
            String text = before[i] + digits + behind[i] + "=A";
            reads(text, fault == 0 ? 2 : fault, fault == 0 ? -1 : fault == T ? 0 : before[i].length());
            if (fault == 0) {
                FormulaScales x = after(text);
                is("the number in '" + text + "'", sign[i] * due, () -> x.has(0, kind[place]));
            }
        }
    }

    private static void numbersAre1To99() {
        sentence("Numbers are 1 .. 99, without a 0 in front");
        for (int number = 1; number <= 99; number++) {
            numberInEachPlace("" + number, number <= 40 ? 0 : T, number);
            numberInEachPlace("0" + number, N, 0);
            numberInEachPlace("00" + number, N, 0);
        }
        String[] wrong = {"0", "00", "000", "100", "101", "110", "199", "256", "257", "999", "1000", "4294967297",
            "18446744073709551617", times("1", 60)};
        for (String digits : wrong) {
            numberInEachPlace(digits, N, 0);
        }
    }

    private static void formulaHasTheSumOverItsUnits() {
        sentence("A formula HAS of each element the sum over its units, times the factor; the charge's number");
        FormulaScales x = after("2A3(B2[CA]3)2.5D2A^3- + (A(B[C2]2)2)2 = AABA");
        int[][] due = {{23, 8, 12, 10, -3}, {2, 4, 16, 0, 0}, {3, 1, 0, 0, 0}};
        for (int i = 0; i < due.length; i++) {
            for (int j = 0; j < due[i].length; j++) {
                int formula = i;
                int kind = j;
                is("has(" + i + ", " + j + ")", due[i][j], () -> x.has(formula, kind));
            }
        }
    }

    private static void kindsInTheirOrder() {
        sentence("KINDS: the elements in the order in which they first stand in the text, at last the charge");
        FormulaScales x = after("e^- + B^+ = (C(A))B + D");
        int[] names = {'B', 'C', 'A', 'D', 0};
        for (int i = 0; i < names.length; i++) {
            int kind = i;
            is("name(" + i + ")", names[i], () -> x.name(kind));
        }
        FormulaScales y = after("BA=AB");
        is("two elements", 2, y::kinds);
        is("no charge, no kind for it", NO_SUCH, () -> y.name(2));
        FormulaScales z = after("A=A+e^-");
        is("one formula with a charge is enough", 2, z::kinds);
    }

    private static void atMostFiveKinds() {
        sentence("There are at most 5 kinds");
        is("five elements", 5, after("ABCDE=EDCBA")::kinds);
        is("five elements, one by one", 5, after("A+B+C=D+E+A")::kinds);
        is("five elements of one capital", 5, after("AAa=AbAcAdA")::kinds);
        is("four elements and a charge", 5, after("ABCD^+=DCBA^2-+e^-")::kinds);
        is("a charge and four elements", 5, after("e^-=ABCD^-")::kinds);
        reads("ABCDEF=A", M, 5);
        reads("AAa=AbAcAdAe", M, 10);
        reads("ABCDE^+=A", M, 5);
        reads("ABCD^+=ABCDE", M, 11);
        reads("ABCDE=e^-", M, 6);
    }

    private static void firstFaultCounts() {
        sentence("the text is gone through from its front, and the first one that is met counts");
        // Each piece is a formula with a fault; behind it stands one with another fault.
        String[] pieces = {"A)", "A0", "((((A))))", "ABCDEF", "A41"};
        int[] answers = {S, N, D, M, T};
        int[] places = {1, 1, 3, 5, 0};
        for (int i = 0; i < pieces.length; i++) {
            for (String behind : pieces) {
                reads(pieces[i] + "+" + behind + "=A", answers[i], places[i]);
                reads("A=" + pieces[i] + "=" + behind, answers[i], places[i] + 2);
            }
        }
    }

    private static void endWhereMoreMustCome() {
        sentence("SIGN: .. or the text's end where more must come (met there)");
        String[] fronts = {"", " ", "2", "A", "A ", "A2", "A.", "A.2", "(", "(A", "((A)", "A(A2", "[A", "A^", "A^2",
            "A^2+", "A+", "A+ ", "A=", "A= ", "A=2", "A=A.", "A=(A", "A=A^", "A=A^9", "A=A+", "e^-", "e^-="};
        for (String text : fronts) {
            reads(text, S, text.length());
        }
    }

    private static void bracketsThatDoNotFit() {
        sentence("a bracket that does not fit the one that opened .. [is] such");
        reads("(A]=A", S, 2);
        reads("[A)=A", S, 2);
        reads("([A)]=A", S, 3);
        reads("[(A]=A", S, 3);
        reads("([A])=A", 2);
        reads("A)=A", S, 1);
        reads("A]=A", S, 1);
        reads("(A))=A", S, 3);
        reads(")=A", S, 0);
        reads("(A2]=A", S, 3);
        reads("([A]2]=A", S, 5);
    }

    private static void electronFault() {
        sentence("an e at the beginning of a formula that is not followed by ^- , met at the e");
        reads("e^-=A", 2);
        reads("e=A", S, 0);
        reads("e", S, 0);
        reads("e^", S, 0);
        for (char c = FIRST; c <= LAST; c++) {
            reads("e" + c + "-=A", c == '^' ? 2 : S, c == '^' ? -1 : 0);
            reads("e^" + c + "=A", c == '-' ? 2 : S, c == '-' ? -1 : 0);
        }
        reads("e^+=A", S, 0);
        reads("e^1-=A", S, 0);
        reads("e-=A", S, 0);
        reads("e0=A", S, 0);
        reads("A + ee^-=A", S, 4);
        reads("A = e^2-", S, 4);
        reads("ABCDE=e", S, 6);
    }

    /** Whether a character is of a sort: itself, or any capital for A, small letter for a, digit 1 .. 9 for 1. */
    private static boolean isOf(char c, String sorts) {
        char sort = c >= 'A' && c <= 'Z' ? 'A' : c >= 'a' && c <= 'z' ? 'a' : c >= '1' && c <= '9' ? '1' : c;
        return sorts.indexOf(sort) >= 0;
    }

    /** Tries each character behind a front; one that may stand there leads to the end, where more must come. */
    private static void oneMore(String front, String mayStand) {
        for (char c = FIRST; c <= LAST; c++) {
            boolean noNumber = c == '0' && isOf('1', mayStand) && !isOf('0', mayStand);
            reads(front + c, noNumber ? N : S, front.length() + (isOf(c, mayStand) ? 1 : 0));
        }
    }

    private static void everyCharacterInItsPlace() {
        sentence("SIGN: a character that can't stand where it stands");
        oneMore("", "A([1 ");
        oneMore(" ", "A([1 ");
        oneMore("B+", "A([1 ");
        oneMore("B", "Aa([1.^+= ");
        oneMore("Bb", "A([1.^+= ");
        oneMore("B2", "A([10.^+= ");
        oneMore("2", "A([10");
        oneMore("B.", "A([1");
        oneMore("B.2", "A([10");
        oneMore("(", "A([");
        oneMore("[", "A([");
        oneMore("((", "A([");
        oneMore("(B", "Aa([1)");
        oneMore("[B", "Aa([1]");
        oneMore("(B2", "A([10)");
        oneMore("(B)", "A([1.^+= ");
        oneMore("((B)", "A([1)");
        oneMore("B^", "+-1");
        oneMore("B^2", "+-10");
        oneMore("B^+", "+= ");
        oneMore("e^-", "+= ");
        oneMore("B ", "+= ");
    }

    private static void everyCharacterBehindTheEquals() {
        sentence("An EQUATION is .. up to the end of the text");
        for (char c = FIRST; c <= LAST; c++) {
            boolean ends = isOf(c, "A");
            reads("B=" + c, ends ? 2 : c == '0' ? N : S, ends ? -1 : isOf(c, "([1 ") ? 3 : 2);
            ends = isOf(c, "Aa1 ");
            reads("B=B" + c, ends ? 2 : c == '0' ? N : S, ends ? -1 : isOf(c, "([.^+") ? 4 : 3);
            ends = c == ' ';
            reads("B=e^-" + c, ends ? 2 : S, ends ? -1 : c == '+' ? 6 : 5);
            reads("B=B " + c, ends ? 2 : S, ends ? -1 : c == '+' ? 5 : 4);
        }
    }

    private static void numberIsMetAtItsFirstDigit() {
        sentence("NUMBER: .. the digits that stand side by side are none as said (met at the first one)");
        reads("A=A100", N, 3);
        reads("A=A001", N, 3);
        reads("A=A12345", N, 3);
        reads("A=B.100A", N, 4);
        reads("A=(A)00", N, 5);
        reads("A=A^100+", N, 4);
        reads("A=A100)", N, 3);
        reads("A=000", N, 2);
        reads("A  = 0A", N, 5);
        reads("A=A99", T, 2);
        reads("ABCDE=0F", N, 6);
        reads("ABCDE=A.0F", N, 8);
        reads("ABCDE=(A)0F", N, 9);
        reads("(((A0(A", N, 4);
    }

    private static void digitsElsewhereAreASign() {
        sentence("digits elsewhere are a SIGN");
        reads("(0A)=A", S, 1);
        reads("(5A)=A", S, 1);
        reads("([100A])=A", S, 2);
        reads("A^+0=A", S, 3);
        reads("A^+5=A", S, 3);
        reads("e^-100=A", S, 3);
        reads("e5=A", S, 0);
        reads("A 0=A", S, 2);
        reads("A=A 100", S, 4);
        reads("A2 0=A", S, 3);
    }

    private static void deepIsMetAtItsBracket() {
        sentence("DEEP: a group that would lie within three others (met at its bracket)");
        reads("(((A)))=A", 2);
        reads("((((A))))=A", D, 3);
        reads("(A(B(A(A))))=A", D, 6);
        reads("A=[[[[", D, 5);
        reads("((((", D, 3);
        reads("(((]", S, 3);
        reads("((()", S, 3);
        reads("(((A)2(A)2[A[", D, 12);
        reads("A.(((A[A])))=A", D, 6);
    }

    private static void seventhFormulaIsMetWhereItMustStand() {
        sentence("MANY: there are six formulas, and another one must come (met where it must stand, blanks left out)");
        reads("A=A+A+A+A+A", 6);
        reads("A=A+A+A+A+A ", 6);
        reads("A=A+A+A+A+A+A", M, 12);
        reads("A=A+A+A+A+A  +   A", M, 17);
        reads("A=A+A+A+A+A+(", M, 12);
        reads("A=A+A+A+A+A+0", M, 12);
        reads("A=A+A+A+A+A+e", M, 12);
        reads("A=A+A+A+A+A+A41", M, 12);
        reads("A=A+A+A+A+A+", M, 12);
        reads("A=A+A+A+A+A+  ", M, 14);
        reads("A+A+A+A+A+A=A", M, 12);
        reads("A+A+A+A+A+A", S, 11);
        reads("A=A+A+A+A+A=A", S, 11);
        reads("A=A+A+A+A+A41+A", T, 10);
        reads("A=A+A+A+A+A.", S, 12);
    }

    private static void sixthKindIsMet() {
        sentence("MANY: .. or an element or a charge would be the sixth kind (met at its capital, its ^ , or the e)");
        reads("ABCDE=AF", M, 7);
        reads("ABCDE=AFe2", M, 7);
        reads("ABCDE=A(F)", M, 8);
        reads("ABCDE=A.2F", M, 9);
        reads("ABCDEAa=A", M, 5);
        reads("ABCDE=A^2+", M, 7);
        reads("ABCDE=A^", M, 7);
        reads("ABCDE=A^0+", M, 7);
        reads("ABCDE= e^-", M, 7);
        reads("ABCD^+=E", M, 7);
        reads("e^-=ABCDE", M, 8);
        reads("ABCDE2^+=A", M, 6);
        reads("ABCDEF0=A", M, 5);
        reads("ABCDE0F=A", N, 5);
        reads("ABCDE=A+A", 3);
    }

    private static void tooMuchOfAnElement() {
        sentence("TOO_MUCH: a formula has more than 40 of an element");
        String[] forty = {"A40", "A20A20", "A39A", times("A", 40), "(A20)2", "(A4)10", "((A2)4)5", "(((A)2)4)5",
            "40A", "4A10", "2(A4)5", "A20.A20", "3A5.A25", "B(A39B)A", "A40B40"};
        for (String formula : forty) {
            reads(formula + "=A", 2);
            reads(formula + ".A=A", T, 0);
            reads("A=" + formula + ".A", T, 2);
        }
        reads("A40^40+=A", 2);
        reads("A41^40+=A", T, 0);
        reads("A41=A", T, 0);
        reads("BA41=A", T, 0);
        reads("ABCDE41=A", T, 0);
        reads("A40+A40=A40", 3);
        reads(" A + B41 = A", T, 5);
        reads("A=A+ A41", T, 5);
        reads("(A6)7=A", T, 0);
    }

    private static void tooMuchCharge() {
        sentence("TOO_MUCH: .. or a charge beyond 40 or -40");
        reads("A^40+=A^40-", 2);
        reads("A^41+=A", T, 0);
        reads("A^41-=A", T, 0);
        reads("A^99+=A", T, 0);
        reads("A^99-=A", T, 0);
        reads("A= A^41-", T, 3);
        reads("A^40++A^40+=A", 3);
        reads("A^40-+A^40-=A", 3);
    }

    private static void tooMuchIsNotHiddenByWrappingRound() {
        sentence("TOO_MUCH: more than 40, however much more");
        String thousandMillion = "64(((A64)64)64)64";
        reads(thousandMillion + "=A", T, 0);
        reads(thousandMillion + "." + thousandMillion + "=A", T, 0);
        reads(thousandMillion + times("." + thousandMillion, 3) + "=A", T, 0);
        reads("A." + thousandMillion + times("." + thousandMillion, 3) + "=A", T, 0);
        reads("64(((A64)64)64)64.64(((A64)64)64)64.64(((A64)64)64)64.64(((A64)64)64)64B=B", T, 0);
        reads("99(((A99A99A99)99)99)99=A", T, 0);
        reads("16A16=A", T, 0);
        reads("64(A32)32=A", T, 0);
        reads("(A64)4=A", T, 0);
    }

    private static void tooMuchIsMetWhenAllHasBeenRead() {
        sentence("TOO_MUCH: .. when all of it has been read, before what stands behind it is looked at");
        reads("A41", T, 0);
        reads("A41=", T, 0);
        reads("A41 ", T, 0);
        reads("A41+", T, 0);
        reads("A41)", T, 0);
        reads("A41 A", T, 0);
        reads("A^41+0", T, 0);
        reads("A=A41=A", T, 2);
        reads("A41.", S, 4);
        reads("A41.0A", N, 4);
        reads("A41^", S, 4);
        reads("A41^+", T, 0);
        reads("A41^100+", N, 4);
        reads("(A41", S, 4);
        reads("A41(", S, 4);
        reads("A41(((([", D, 6);
        reads("A41BCDEF", M, 7);
        reads("A41BCDE^+", M, 7);
        reads("A^41", S, 4);
        reads("A^41=A", S, 4);
    }

    private static void productsCountWithAMinus() {
        sentence("A SOLUTION: .. the sum .. products counted with a minus, is 0");
        FormulaScales x = after("A2 + A = A3");
        is("both sides alike", true, () -> x.solves(1, 1, 1, 0, 0));
        is("without the minus", false, () -> x.solves(1, 1, -1, 0, 0));
        FormulaScales y = after("A^+ + e^- = A");
        is("for each kind", true, () -> y.solves(1, 1, 1, 0, 0));
        is("for the charge, too", false, () -> y.solves(1, 0, 1, 0, 0));
        is("for the element, too", false, () -> y.solves(1, 1, 0, 0, 0));
    }

    private static void freedomFrom0To5() {
        sentence("The FREEDOM is the number of formulas less the greatest number of independent rows");
        String[] texts = {"A=B", "A+B+C+D=E", "A=A", "A+B+C+D+E=ABCDE", "A+B+C=AB+C", "A+B=A+B+C", "A+A=A+A",
            "A+B=AB+A2+B2+A", "A=A+A+A+A+A", "AB2=A2B4", "ABCDE=A2B2C2D2E2", "A^+=A^2+", "A^+=A2^2+",
            "AB^+=A+B^2+", "AB^+=A+B^+", "e^-=e^-", "AB+A2B2+A3B3=A4B4+A5B5+AB"};
        int[] due = {0, 0, 1, 1, 2, 2, 3, 4, 5, 1, 1, 0, 1, 0, 1, 1, 5};
        for (int i = 0; i < texts.length; i++) {
            is("freedom of " + texts[i], due[i], after(texts[i])::freedom);
        }
    }

    private static void freeAre(String text, String due) {
        FormulaScales x = after(text);
        for (int i = 0; i < due.length(); i++) {
            int formula = i;
            is("free(" + i + ") of " + text, due.charAt(i) == 'f', () -> x.free(formula));
        }
    }

    private static void freeFormulasDependOnLesserOnes() {
        sentence("formula i is DEPENDENT if its column is a rational combination of those of 0 .. i - 1");
        freeAre("A=A", ".f");
        freeAre("A=B", "..");
        freeAre("A+A+A=A+A+A", ".fffff");
        freeAre("AB+A=B", "..f");
        freeAre("A+B=AB", "..f");
        freeAre("A+A2+B=AB+B", ".f.ff");
        freeAre("A+B+C+D+E=ABCDE", ".....f");
        freeAre("A2+A3=B+A5+C", ".f.f.");
        freeAre("A^+=A+e^-", "..f");
        freeAre("e^-+e^-=A+A^+", ".f.f");
        freeAre("A3B2+A2B3=AB", "..f");
    }

    private static void basesForEachFreeFormula() {
        sentence("For each free formula f, from the least on, there is one BASE: 0 for all other free ones");
        FormulaScales x = after("A2+A3+B=A5+B2");
        long[][] due = {{-3, 2, 0, 0, 0}, {5, 0, 0, 2, 0}, {0, 0, 2, 0, 1}};
        for (int k = 0; k < due.length; k++) {
            for (int i = 0; i < due[k].length; i++) {
                int base = k;
                int formula = i;
                is("number(" + k + ", " + i + ")", due[k][i], () -> x.number(base, formula));
            }
        }
        is("no base more than the freedom", NO_SUCH, () -> x.number(3, 0));
        sentence("the BASE has a positive number for f");
        String[] negative = {"e^-=e^-", "A^-+e^-=A", "A+A2=B", "A^2-=A^2-", "e^-+A^-=A^-"};
        for (String text : negative) {
            FormulaScales y = after(text);
            for (int k = 0; k < y.freedom(); k++) {
                int base = k;
                is("base " + k + " of " + text, true, () -> y.number(base, freeFormula(y, base)) > 0);
            }
        }
        FormulaScales z = after("A^2-+e^-=A");
        is("number(0, 0) below a negative lead", 1L, () -> z.number(0, 0));
        is("number(0, 1) below a negative lead", -2L, () -> z.number(0, 1));
        is("number(0, 2) below a negative lead", 1L, () -> z.number(0, 2));
    }

    private static int freeFormula(FormulaScales x, int base) {
        int seen = -1;
        for (int i = 0; i < x.formulas(); i++) {
            seen += x.free(i) ? 1 : 0;
            if (x.free(i) && seen == base) {
                return i;
            }
        }
        return -1;
    }

    private static void basesHaveNoCommonDivisor() {
        sentence("no common divisor of all its numbers above 1");
        String[] texts = {"A=A", "A40=A40", "A4=A6", "A39=A40", "A6+B6=A3B2", "A12+B18=A8B27", "A2+A2=B"};
        long[][] due = {{1, 1}, {1, 1}, {3, 2}, {40, 39}, {3, 2, 6}, {4, 9, 6}, {-1, 1, 0}};
        for (int i = 0; i < texts.length; i++) {
            FormulaScales x = after(texts[i]);
            for (int j = 0; j < due[i].length; j++) {
                int formula = j;
                is("number(0, " + j + ") of " + texts[i], due[i][j], () -> x.number(0, formula));
            }
        }
    }

    private static void statesAtTheirBorders() {
        sentence("BALANCED if its freedom is 1 and all numbers of the base are positive");
        is("two ones", FormulaScales.BALANCED, after("A=A")::state);
        is("six formulas", FormulaScales.BALANCED, after("A+B+C+D+E=ABCDE")::state);
        sentence("NONE if its freedom is 0");
        is("two kinds apart", FormulaScales.NONE, after("A=B")::state);
        is("five formulas of five kinds", FormulaScales.NONE, after("A+B+C+D=E")::state);
        is("but for the charge", FormulaScales.NONE, after("A=A^+")::state);
        sentence("MIXED if its freedom is 1 and some number of the base is not positive");
        is("a 0 at the front", FormulaScales.MIXED, after("B+A=A")::state);
        is("a 0 in the middle", FormulaScales.MIXED, after("A+B=A")::state);
        is("a 0 at the end", FormulaScales.MIXED, after("A+A=B")::state);
        is("a number below 0", FormulaScales.MIXED, after("A+AB=B")::state);
        sentence("OPEN if [its freedom] is greater");
        is("freedom 2", FormulaScales.OPEN, after("A=A+A")::state);
        is("freedom 2, no positive number", FormulaScales.OPEN, after("A+A+A=B")::state);
        is("freedom 5", FormulaScales.OPEN, after("A+A+A=A+A+A")::state);
    }

    private static void noEquationAtFirst() {
        sentence("Before an equation is read .. there is none");
        FormulaScales x = new FormulaScales();
        hasNoEquation(x);
        enter(x, "A=A");
        hasNoEquation(x);
        x.read();
        is("state once it is read", FormulaScales.BALANCED, x::state);
    }

    private static void noEquationAfterAFault() {
        sentence("after one with a fault, there is none");
        String[] faulty = {"", "A=", "A=A)", "A=A0", "A=((((A))))", "A=BCDEFG", "A=A+A+A+A+A+A", "A=A41", "A=A^41-"};
        String[] earlier = {"H2 + O2 = H2O", "A = B", "A + B = C + A", "A2 = A3 + A5", "A+B+C+D=AB+CD"};
        for (String fault : faulty) {
            for (String text : earlier) {
                FormulaScales x = after(text);
                readAnew(x, fault);
                hasNoEquation(x);
                is("read after '" + fault + "'", 2, () -> readAnew(x, "A2=A"));
                is("number after '" + fault + "'", 2L, () -> x.number(0, 1));
            }
        }
    }
}
