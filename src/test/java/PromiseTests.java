/** For each promise of the document: ordinary inputs, the edges that it names, and wrong inputs. */
public final class PromiseTests extends Probe {
    private static final String GREAT = "A40 + B39C40 + D39E40 = A39B40 + C39D40 + E39";

    public static void main(String[] args) {
        newObject();
        typing();
        reading();
        readingBlanks();
        readingNumbers();
        readingGroups();
        readingCharges();
        readingMany();
        readingTooMuch();
        firstFaultCounts();
        states();
        freedoms();
        formulasAndKinds();
        names();
        amounts();
        products();
        freeFormulas();
        numbers();
        weights();
        writtenLines();
        solutions();
        nothingAfterAFault();
        equationOutlivesTyping();
        end();
    }

    private static void newObject() {
        FormulaScales x = new FormulaScales();
        is("at of a new object", -1, x::at);
        hasNoEquation(x);
        is("type(0) on a new object", 0, () -> x.type(0));
        is("read of an empty text", S, x::read);
        is("at of an empty text", 0, x::at);
        hasNoEquation(x);
    }

    private static void typing() {
        FormulaScales x = new FormulaScales();
        is("type of three", 3, () -> x.type(packed("H=H")));
        is("type of eight", 11, () -> x.type(packed("++++++++")));
        is("type of none", 11, () -> x.type(0));
        is("type behind a 0 is not looked at", 12, () -> x.type(packed("A\0\1\377BCD")));
        is("type of a leading 0", 12, () -> x.type(packed("\0ABC")));
        is("type of 32 and 126", 14, () -> x.type(packed(" ~")));
        is("type of 31", ARGUMENT, () -> x.type(31));
        is("type of 127", ARGUMENT, () -> x.type(127));
        is("type of 128", ARGUMENT, () -> x.type(128));
        is("type of 255s", ARGUMENT, () -> x.type(-1L));
        is("type of a wrong eighth", ARGUMENT, () -> x.type(packed("ABCDEFG\200")));
        is("a refused type adds nothing", 14, () -> x.type(0));
        FormulaScales y = new FormulaScales();
        for (int i = 0; i < 12; i++) {
            y.type(packed("HHHHHHHH"));
        }
        is("type of five more than 96", SUPPORT, () -> y.type(packed("HHHHH")));
        is("type up to 100", 100, () -> y.type(packed("HHHH")));
        is("type of one more than 100", SUPPORT, () -> y.type(packed("H")));
        is("type of none at 100", 100, () -> y.type(0));
        is("read of a text of 100", T, y::read);
        is("at of a text of 100", 0, y::at);
        is("type after a read", 1, () -> y.type(packed("H")));
    }

    private static void reading() {
        reads("H=H", 2);
        reads("A+B+C=D", 4);
        reads("Fe2(SO4)3 + KOH = K2SO4 + Fe(OH)3", 4);
        reads("H", S, 1);
        reads("H+", S, 2);
        reads("H=", S, 2);
        reads("=H", S, 0);
        reads("+H=H", S, 0);
        reads("H==H", S, 2);
        reads("H=H=H", S, 3);
        reads("H++H=H", S, 2);
        reads("H+=H", S, 2);
        reads("H=H+", S, 4);
        reads("H-H=H", S, 1);
        reads("Hhh=H", S, 2);
        reads("h=H", S, 0);
        reads("H=~", S, 2);
        reads(".H=H", S, 0);
        reads("H.=H", S, 2);
        reads("H..H=H", S, 2);
        reads("2=H", S, 1);
        reads("H.2=H", S, 3);
        FormulaScales x = after("H=H");
        is("a text is read once", S, x::read);
        is("at of the empty text behind it", 0, x::at);
        FormulaScales y = after("H");
        enter(y, "H=H");
        is("read after a fault", 2, y::read);
        is("at after a fault is mended", -1, y::at);
    }

    private static void readingBlanks() {
        reads("  H  +  H  =  H  ", 3);
        reads("   ", S, 3);
        reads("H ", S, 2);
        reads("H= ", S, 3);
        reads("H 2=H", S, 2);
        reads("2 H=H", S, 1);
        reads("H e=H", S, 2);
        reads("H H=H", S, 2);
        reads("H .H=H", S, 2);
        reads("H. H=H", S, 2);
        reads("( H)=H", S, 1);
        reads("(H )=H", S, 2);
        reads("(H) 2=H", S, 4);
        reads("H ^+=H", S, 2);
        reads("H^ +=H", S, 2);
        reads("H^2 +=H", S, 3);
        reads("e ^-=H", S, 0);
        reads("e^ -=H", S, 0);
        reads("e^- =H", 2);
        reads("H^+ +H=H", 3);
    }

    private static void readingNumbers() {
        reads("H0=H", N, 1);
        reads("H01=H", N, 1);
        reads("H00=H", N, 1);
        reads("H100=H", N, 1);
        reads("H10000000000000000001=H", N, 1);
        reads("0H=H", N, 0);
        reads("01H=H", N, 0);
        reads("100H=H", N, 0);
        reads("H.0H=H", N, 2);
        reads("(H)0=H", N, 3);
        reads("(H)123=H", N, 3);
        reads("H^0+=H", N, 2);
        reads("H^100+=H", N, 2);
        reads("H^05-=H", N, 2);
        reads("H^+2=H", S, 3);
        reads("e^-2=H", S, 3);
        reads("H 0=H", S, 2);
        reads("H=0", N, 2);
        reads("H=5", S, 3);
        reads("(0H)=H", S, 1);
        reads("9H=H9", 2);
        reads("40H=H40", 2);
    }

    private static void readingGroups() {
        reads("(H)=[H]", 2);
        reads("()=H", S, 1);
        reads("[]=H", S, 1);
        reads("(H=H", S, 2);
        reads("(H", S, 2);
        reads("(", S, 1);
        reads("(H]=H", S, 2);
        reads("[H)=H", S, 2);
        reads("([H)]=H", S, 3);
        reads("H)=H", S, 1);
        reads(")=H", S, 0);
        reads("(H.H)=H", S, 2);
        reads("(H^+)=H", S, 2);
        reads("([(H)])=H", 2);
        reads("(H)(H)(H)(H)=H", 2);
        reads("((H)(H)[H])=H", 2);
        reads("([([H])])=H", D, 3);
        reads("((((", D, 3);
        reads("((([", D, 3);
        reads("(((H(H", D, 4);
        reads("(((H)(H))(H(H(H))))=H", D, 13);
        reads("H=((((H))))", D, 5);
    }

    private static void readingCharges() {
        reads("H^+=H", 2);
        reads("H^2+=H^12-", 2);
        reads("H^=H", S, 2);
        reads("H^", S, 2);
        reads("H^2", S, 3);
        reads("H^2=H", S, 3);
        reads("H^+-=H", S, 3);
        reads("H^+^+=H", S, 3);
        reads("H^+H=H", S, 3);
        reads("H^+.H=H", S, 3);
        reads("H^++H=H", 3);
        reads("^+=H", S, 0);
        reads("2^+=H", S, 1);
        reads("e^-=e^-", 2);
        reads("e=H", S, 0);
        reads("e", S, 0);
        reads("e^", S, 0);
        reads("e^+=H", S, 0);
        reads("e^1-=H", S, 0);
        reads("e2^-=H", S, 0);
        reads("2e^-=H", S, 1);
        reads("(e^-)=H", S, 1);
        reads("H.e^-=H", S, 2);
        reads("e^-.H=H", S, 3);
        reads("e^-H=H", S, 3);
        reads("H=e", S, 2);
        reads("H = H + ee^-", S, 8);
        reads("He^-=He", 2);
    }

    private static void readingMany() {
        reads("A+A+A+A+A=A", 6);
        reads("A+A+A+A+A+A=A", M, 12);
        reads("A=A+A+A+A+A+  A", M, 14);
        reads("A=A+A+A+A+A+", M, 12);
        reads("A=A+A+A+A+A+ ", M, 13);
        reads("A=A+A+A+A+A+)", M, 12);
        reads("A=A+A+A+A+A+0A", M, 12);
        reads("A+A+A+A+A+A=", M, 12);
        reads("A+A+A+A+A+A", S, 11);
        reads("A=A+A+A+A+A=A", S, 11);
        reads("A=A+A+A+A+A A", S, 12);
        reads("ABCDE=EDCBA", 2);
        reads("ABCDEF=A", M, 5);
        reads("ABCDEAa=A", M, 5);
        reads("AAaAbAcAdA=A", 2);
        reads("ABCDE=(A2F3)", M, 9);
        reads("ABCDE^+=A", M, 5);
        reads("ABCDE^=A", M, 5);
        reads("ABCDE^0=A", M, 5);
        reads("ABCDE=A+e^-", M, 8);
        reads("ABCDE=A+e", S, 8);
        reads("ABCDE=A+e^+", S, 8);
        reads("ABCD^+E=A", S, 6);
        reads("ABCD^+=E", M, 7);
        reads("e^-+ABCDE=A", M, 8);
        reads("ABCD^+=A^-+e^-", 3);
    }

    private static void readingTooMuch() {
        reads("H40=H", 2);
        reads("H41=H", T, 0);
        reads("H99=H", T, 0);
        reads("  H41=H", T, 2);
        reads("H= H41", T, 3);
        reads("H20H20=H", 2);
        reads("H20OH21=H", T, 0);
        reads("(H4)10=H", 2);
        reads("(H4)11=H", T, 0);
        reads("3H5.H25=H", 2);
        reads("3H5.H26=H", T, 0);
        reads("41H=H", T, 0);
        reads("99(((H99)99)99)99=H", T, 0);
        reads("(((H99)99)99)99(((H99)99)99)99(((H99)99)99)99=H", T, 0);
        reads("H40O40=H", 2);
        reads("H^40+=H^40-", 2);
        reads("H^41+=H", T, 0);
        reads("H^41-=H", T, 0);
        reads("H^99-=H", T, 0);
    }

    private static void firstFaultCounts() {
        reads("H41)=H", T, 0);
        reads("H41h=H", T, 0);
        reads("H41 H=H", T, 0);
        reads("H41", T, 0);
        reads("H^41+2", T, 0);
        reads("H41^=H", S, 4);
        reads("H41^0+=H", N, 4);
        reads("H41.=H", S, 4);
        reads("H41(=H", S, 4);
        reads("(H41=H", S, 4);
        reads("H41.((((H", D, 7);
        reads("H41.H0=H", N, 5);
        reads("H41.ABCDE=H", M, 8);
        reads("H0=H41", N, 1);
        reads("H=H0=", N, 3);
        reads("ABCDEF0((((", M, 5);
    }

    private static void states() {
        is("state, balanced", FormulaScales.BALANCED, after("H2 + O2 = H2O")::state);
        is("state, none", FormulaScales.NONE, after("A = B")::state);
        is("state, mixed by a 0", FormulaScales.MIXED, after("A + B = C + A")::state);
        is("state, mixed by a minus", FormulaScales.MIXED, after("A + A2B = B")::state);
        is("state, open", FormulaScales.OPEN, after("A2 = A3 + A5")::state);
        is("state, mixed by the charge", FormulaScales.MIXED, after("e^- = H^+ + H")::state);
        is("state, none by the charge", FormulaScales.NONE, after("H^+ = H")::state);
        FormulaScales x = after("A = A");
        enter(x, "A = B");
        x.read();
        is("state of the latest equation", FormulaScales.NONE, x::state);
        is("the constants of state", "0123", () -> "" + FormulaScales.BALANCED + FormulaScales.NONE
                + FormulaScales.MIXED + FormulaScales.OPEN);
        is("the other constants", "-1-2-3-4-5-6", () -> "" + FormulaScales.NONE_YET + S + N + D + M + T);
    }

    private static void freedoms() {
        is("freedom 0", 0, after("H2O = O2")::freedom);
        is("freedom 1", 1, after("H2 + O2 = H2O")::freedom);
        is("freedom 2", 2, after("NaCl = Na + Cl2 + NaCl")::freedom);
        is("freedom 5", 5, after("A+A+A=A+A+A")::freedom);
        is("freedom with kinds that depend", 1, after("AB2 = A2B4")::freedom);
        is("freedom with five kinds", 1, after("ABCDE=A+B+C+D+E")::freedom);
    }

    private static void formulasAndKinds() {
        is("formulas, two", 2, after("A=A")::formulas);
        is("formulas, six", 6, after("A+A+A=A+A+A")::formulas);
        is("kinds, one", 1, after("A=A")::kinds);
        is("kinds, five elements", 5, after("ABCDE=A")::kinds);
        is("kinds, four elements and a charge", 5, after("ABCD^-=A")::kinds);
        is("kinds, the charge alone", 1, after("e^-=e^-")::kinds);
        is("kinds, an element twice", 2, after("AB(AB)2=BA")::kinds);
    }

    private static void names() {
        FormulaScales x = after("MnO4^- + Fe^2+ + H^+ = Mn^2+ + Fe^3+ + H2O");
        is("name of Mn", 'M' + 256 * 'n', () -> x.name(0));
        is("name of O", (int) 'O', () -> x.name(1));
        is("name of Fe", 'F' + 256 * 'e', () -> x.name(2));
        is("name of H", (int) 'H', () -> x.name(3));
        is("name of the charge", 0, () -> x.name(4));
        is("name of a sixth", NO_SUCH, () -> x.name(5));
        is("name(-1)", NO_SUCH, () -> x.name(-1));
        is("name of the least", NO_SUCH, () -> x.name(Integer.MIN_VALUE));
        FormulaScales y = after("e^- + Zz = [C(A)]");
        is("the charge is the last kind", 0, () -> y.name(3));
        is("the order is that of the text", (int) 'C', () -> y.name(1));
        FormulaScales z = after("A = A");
        is("no charge, no such kind", NO_SUCH, () -> z.name(1));
    }

    private static void amounts() {
        FormulaScales x = after("2A3(B2[CA]3)2.5D2^3- + A = D + e^-");
        is("has of A", 18, () -> x.has(0, 0));
        is("has of B", 8, () -> x.has(0, 1));
        is("has of C", 12, () -> x.has(0, 2));
        is("has of D in a second part", 10, () -> x.has(0, 3));
        is("has of the charge, without the factor", -3, () -> x.has(0, 4));
        is("has of a kind that it lacks", 0, () -> x.has(1, 1));
        is("has of a product, without a minus", 1, () -> x.has(2, 3));
        is("has of e^-", -1, () -> x.has(3, 4));
        is("has of an element in e^-", 0, () -> x.has(3, 0));
        is("has of no such formula", NO_SUCH, () -> x.has(4, 0));
        is("has of formula -1", NO_SUCH, () -> x.has(-1, 0));
        is("has of no such kind", NO_SUCH, () -> x.has(0, 5));
        is("has of kind -1", NO_SUCH, () -> x.has(0, -1));
        FormulaScales y = after("H^+ = H^40-");
        is("has of a charge without a number", 1, () -> y.has(0, 1));
        is("has of a charge -40", -40, () -> y.has(1, 1));
        FormulaScales z = after("[(A[B2]3)2C]2=A4B24C2");
        is("has three deep", 24, () -> z.has(0, 1));
        is("has two deep", 4, () -> z.has(0, 0));
        enter(z, "B = B");
        z.read();
        is("has of the latest equation", 1, () -> z.has(0, 0));
    }

    private static void products() {
        FormulaScales x = after("A + B = C");
        is("product(0)", false, () -> x.product(0));
        is("product(1)", false, () -> x.product(1));
        is("product(2)", true, () -> x.product(2));
        is("product(3)", NO_SUCH, () -> x.product(3));
        is("product(-1)", NO_SUCH, () -> x.product(-1));
    }

    private static void freeFormulas() {
        FormulaScales x = after("A + A2 + B = AB + B");
        is("free(0)", false, () -> x.free(0));
        is("free(1)", true, () -> x.free(1));
        is("free(2)", false, () -> x.free(2));
        is("free(3)", true, () -> x.free(3));
        is("free(4)", true, () -> x.free(4));
        is("free(5)", NO_SUCH, () -> x.free(5));
        is("free(-1)", NO_SUCH, () -> x.free(-1));
    }

    private static void numbers() {
        FormulaScales x = after("A2 + A3 = A5 + A");
        is("number(0, 0)", -3L, () -> x.number(0, 0));
        is("number(0, 1)", 2L, () -> x.number(0, 1));
        is("number(0, 2)", 0L, () -> x.number(0, 2));
        is("number(1, 0)", 5L, () -> x.number(1, 0));
        is("number(1, 1)", 0L, () -> x.number(1, 1));
        is("number(1, 2)", 2L, () -> x.number(1, 2));
        is("number(2, 0)", 1L, () -> x.number(2, 0));
        is("number(2, 3)", 2L, () -> x.number(2, 3));
        is("number of base 3", NO_SUCH, () -> x.number(3, 0));
        is("number of base -1", NO_SUCH, () -> x.number(-1, 0));
        is("number of formula 4", NO_SUCH, () -> x.number(0, 4));
        is("number of formula -1", NO_SUCH, () -> x.number(0, -1));
        FormulaScales y = after("A4 = A6");
        is("no common divisor, left", 3L, () -> y.number(0, 0));
        is("no common divisor, right", 2L, () -> y.number(0, 1));
        enter(y, "A = B");
        y.read();
        is("number of an equation without freedom", NO_SUCH, () -> y.number(0, 0));
        FormulaScales z = after("A + B + C = ABC");
        enter(z, "A + A + B = B");
        z.read();
        is("number of a leading formula without a share", 0L, () -> z.number(0, 2));
        is("number of another free formula", 0L, () -> z.number(0, 3));
        FormulaScales great = after("A40 + A39B40 + B39C40 + C39D40 + D39E40 = E");
        is("a great number, the free one", 102400000L, () -> great.number(0, 5));
        is("a great number, another", 2560000L, () -> great.number(0, 4));
        is("a great number below 0", -2496000L, () -> great.number(0, 3));
        is("a great number, the first", 2313441L, () -> great.number(0, 0));
    }

    private static void weights() {
        FormulaScales x = after("MnO4^- + Fe^2+ + H^+ = Mn^2+ + Fe^3+ + H2O");
        is("weight of Mn", 1L, () -> x.weight(0));
        is("weight of O", 4L, () -> x.weight(1));
        is("weight of Fe", 5L, () -> x.weight(2));
        is("weight of H", 8L, () -> x.weight(3));
        is("weight of the charge", 17L, () -> x.weight(4));
        is("weight of no such kind", NO_SUCH, () -> x.weight(5));
        is("weight(-1)", NO_SUCH, () -> x.weight(-1));
        FormulaScales y = after("A + e^- = A^-");
        is("weight of a charge below 0", -1L, () -> y.weight(1));
        FormulaScales great = after(GREAT);
        is("weight beyond the ints", 90224199L * 40, () -> great.weight(0));
        FormulaScales none = after("A = B");
        is("weight, not balanced", STATE, () -> none.weight(0));
        is("weight of no such kind, first", NO_SUCH, () -> none.weight(2));
        FormulaScales mixed = after("A + B = C + A");
        is("weight, mixed", STATE, () -> mixed.weight(0));
        FormulaScales open = after("A = A + A");
        is("weight, open", STATE, () -> open.weight(0));
    }

    private static void writtenLines() {
        is("written", "2 H2 + O2 = 2 H2O", () -> line(after("H2+O2=H2O")));
        is("written without blanks around", "2 H2 + O2 = 2 H2O", () -> line(after("   H2  +   O2=  H2O   ")));
        is("written as typed", "CuSO4.5H2O = CuSO4 + 5 H2O", () -> line(after("CuSO4.5H2O=CuSO4+H2O")));
        is("written charges", "Cu = Cu^2+ + 2 e^-", () -> line(after("Cu=Cu^2++e^-")));
        is("written groups", "Fe2(SO4)3 + 6 KOH = 3 K2SO4 + 2 Fe(OH)3",
                () -> line(after("Fe2(SO4)3 + KOH = K2SO4 + Fe(OH)3")));
        is("written numbers of two digits", "40 A = A40", () -> line(after("A=A40")));
        is("written factors stay", "1A1 = 1A", () -> line(after("1A1=1A")));
        FormulaScales x = after("A=A2");
        is("written at its end", (int) '2', () -> x.written(7));
        is("written behind its end", -1, () -> x.written(8));
        is("written far behind", -1, () -> x.written(Integer.MAX_VALUE));
        is("written(-1)", -1, () -> x.written(-1));
        is("written far before", -1, () -> x.written(Integer.MIN_VALUE));
        enter(x, "B=B");
        x.read();
        is("written of the latest equation", "B = B", () -> line(x));
        FormulaScales none = after("A = B");
        is("written, none", STATE, () -> none.written(0));
        FormulaScales mixed = after("A + B = C + A");
        is("written, mixed", STATE, () -> mixed.written(0));
        FormulaScales open = after("A = A + A");
        is("written, open", STATE, () -> open.written(-1));
        FormulaScales great = after(GREAT);
        is("written numbers of many digits", "90224199 A40 + 94910400 B39C40 + 99840000 D39E40"
                + " = 92537640 A39B40 + 97344000 C39D40 + 102400000 E39", () -> line(great));
    }

    private static void solutions() {
        FormulaScales x = after("Fe2(SO4)3 + KOH = K2SO4 + Fe(OH)3");
        is("solves", true, () -> x.solves(1, 6, 3, 2, 0));
        is("solves, the fifth does not count", true, () -> x.solves(1, 6, 3, 2, 77));
        is("solves, below 0", true, () -> x.solves(-2, -12, -6, -4, 0));
        is("solves, all 0", true, () -> x.solves(0, 0, 0, 0, 0));
        is("solves not", false, () -> x.solves(1, 6, 3, 3, 0));
        is("solves not, first", false, () -> x.solves(2, 6, 3, 2, 0));
        FormulaScales five = after("A+B+C+D=E");
        is("solves with five, all 0", true, () -> five.solves(0, 0, 0, 0, 0));
        is("solves with five, the last", false, () -> five.solves(0, 0, 0, 0, 1));
        FormulaScales charge = after("H^+ = H");
        is("solves not by the charge", false, () -> charge.solves(1, 1, 0, 0, 0));
        FormulaScales great = after("A32 = A32");
        is("solves, great numbers", false, () -> great.solves(1 << 30, 0, 0, 0, 0));
        is("solves, greatest numbers", true,
                () -> great.solves(Integer.MIN_VALUE, Integer.MIN_VALUE, 5, 5, 5));
        FormulaScales six = after("A+A+A=A+A+A");
        is("solves with six", STATE, () -> six.solves(0, 0, 0, 0, 0));
        FormulaScales open = after("A2 = A3 + A5");
        is("solves an open one", true, () -> open.solves(4, 1, 1, 0, 0));
    }

    private static void nothingAfterAFault() {
        FormulaScales x = after("H2 + O2 = H2O");
        enter(x, "H2 + O2 = ");
        is("read of a fault", S, x::read);
        is("at of a fault", 10, x::at);
        hasNoEquation(x);
        enter(x, "H=H41");
        is("read of another fault", T, x::read);
        hasNoEquation(x);
        enter(x, "A^+ = A^+");
        is("read after faults", 2, x::read);
        is("kinds after faults", 2, x::kinds);
        enter(x, "A = A");
        x.read();
        is("kinds without the earlier charge", 1, x::kinds);
    }

    private static void equationOutlivesTyping() {
        FormulaScales x = after("H2 + O2 = H2O");
        is("type refused", ARGUMENT, () -> x.type(1));
        enter(x, "XXXXXXXXXXXXXXXXXXXXXXXX");
        is("at while typing", -1, x::at);
        is("state while typing", FormulaScales.BALANCED, x::state);
        is("written while typing", "2 H2 + O2 = 2 H2O", () -> line(x));
        is("weight while typing", 4L, () -> x.weight(0));
        is("at after typing and reading", 24, () -> {
            x.read();
            return x.at();
        });
        FormulaScales other = after("A = A2");
        FormulaScales another = after("B3 = B");
        is("objects are apart", "2 A = A2", () -> line(other));
        is("objects are apart, the other", "B3 = 3 B", () -> line(another));
    }
}
