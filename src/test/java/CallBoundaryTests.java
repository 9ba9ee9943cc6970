/**
 * The sentences of the document's promises that name a boundary case (and that of the 512 calls), each
 * with a test of its own, in the document's order: what is just inside the boundary, and just outside.
 */
public final class CallBoundaryTests extends Probe {
    private static final int MOST = Integer.MAX_VALUE, LEAST = Integer.MIN_VALUE;
    private static final String BALANCED = "H2 + O2 = H2O";
    private static final String NONE = "A = B", MIXED = "A + B = C + A", OPEN = "A2 = A3 + A5";
    private static final String[] UNBALANCED = {NONE, MIXED, OPEN};
    private static final String LONG_LINE = "A38B20C37D11^37++A10B40C33D39^40++A40B39C3D37^38-"
            + "+A25B11C39D40^37-=A14B39C39D18^40-+A39B13C16D40^39+";

    public static void main(String[] args) {
        everyOneOf512Calls();
        newTextIsEmpty();
        typeFromTheLowestByteOn();
        typeUpToTheFirstByte0();
        typeAllEightBytes();
        typeRefusesForeignCharacters();
        typeRefusesMoreThan100();
        refusedTypeAddsNothing();
        readLeavesNoCharacters();
        emptyTextIsSignAt0();
        readTakesTheEquationAway();
        atOfTheLatestRead();
        stateAndFreedomWithoutAnEquation();
        formulasAndKindsWithoutAnEquation();
        nameOfNoSuchKind();
        hasOfNoSuchFormulaOrKind();
        productOfNoSuchFormula();
        freeOfNoSuchFormula();
        numberOfNoSuchBaseOrFormula();
        greatNumbers();
        weightOfNoSuchKindFirst();
        weightOnlyWhenBalanced();
        weightOfTheCharge();
        greatWeights();
        writtenOnlyWhenBalanced();
        writtenHasTwoEnds();
        writtenNumbersThatAreNot1();
        writtenWithoutBlanksAround();
        longestWritten();
        solvesCountsOnlyWhatThereIs();
        solvesForAnyInts();
        solvesNotWithoutAnEquationOrWithSix();
        refusedCallsChangeNothing();
        end();
    }

    private static void everyOneOf512Calls() {
        sentence("An object is used for at most 512 calls after it has been made");
        FormulaScales x = new FormulaScales();
        for (int i = 0; i < 170; i++) {
            boolean good = i % 2 == 0;
            is("type in round " + i, 4, () -> x.type(packed(good ? "A=A2" : "A=A(")));
            is("read in round " + i, good ? 2 : S, x::read);
            is("at in round " + i, good ? -1 : 4, x::at);
        }
        is("call 511", 2, () -> x.type(packed("B^")));
        is("call 512", S, x::read);
        FormulaScales y = after("A=A2");
        for (int i = 3; i <= 512; i++) {
            int place = i % 8;
            is("call " + i, (int) "2 A = A2".charAt(place), () -> y.written(place));
        }
        FormulaScales z = new FormulaScales();
        for (int i = 1; i < 512; i++) {
            is("refused call " + i, STATE, () -> z.solves(0, 0, 0, 0, 0));
        }
        is("call 512 after refused ones", 8, () -> z.type(packed("A = A2  ")));
        FormulaScales often = new FormulaScales();
        for (int i = 1; i <= 256; i++) {
            is("type before read " + i, 8, () -> often.type(packed("AB=A2+B2")));
            is("read " + i, 3, often::read);
        }
        FormulaScales empty = new FormulaScales();
        for (int i = 1; i <= 512; i++) {
            is("read of an empty text, call " + i, S, empty::read);
        }
    }

    private static void newTextIsEmpty() {
        sentence("FormulaScales(): The text has no characters");
        is("type(0)", 0, () -> new FormulaScales().type(0));
        is("type of one", 1, () -> new FormulaScales().type('A'));
        is("read", S, () -> new FormulaScales().read());
        FormulaScales x = after("A=A");
        is("a new object beside an old one", 0, () -> new FormulaScales().type(0));
        is("the old one beside it", 2, x::formulas);
    }

    private static void typeFromTheLowestByteOn() {
        sentence("type: Adds .. the characters that the bytes of more are, from the lowest one on");
        FormulaScales x = new FormulaScales();
        is("type of C2=C at its bytes", 4, () -> x.type('C' + ('2' << 8) + ('=' << 16) + ((long) 'C' << 24)));
        is("type behind it", 7, () -> x.type(packed("3 +")));
        is("type at the end", 9, () -> x.type(packed("C2")));
        x.read();
        is("formula 0", 2, () -> x.has(0, 0));
        is("formula 1", 3, () -> x.has(1, 0));
        is("formula 2", 2, () -> x.has(2, 0));
    }

    private static void typeUpToTheFirstByte0() {
        sentence("type: .. up to the first byte 0 (.. what is behind it is not looked at)");
        String eight = "A=AAAAAA";
        for (int i = 0; i <= 7; i++) {
            int count = i;
            long cut = packed(eight) & ~(255L << (8 * i));
            is("a byte 0 at " + i, count, () -> new FormulaScales().type(cut));
            long foreign = packed(eight.substring(0, i)) | (i < 7 ? -1L << (8 * i + 8) : 0);
            is("a byte 0 at " + i + " and 255s behind it", count, () -> new FormulaScales().type(foreign));
        }
        FormulaScales x = new FormulaScales();
        enter(x, "A=A");
        x.type(packed("2\0B3+"));
        x.read();
        is("what is behind it is not added", 1, x::kinds);
        FormulaScales full = new FormulaScales();
        enter(full, "A".repeat(99));
        is("99, a byte 0 first, and seven behind", 99, () -> full.type(packed("\0AAAAAAA")));
        is("99, one, a byte 0, and six behind", 100, () -> full.type(packed("A\0AAAAAA")));
        is("100, a byte 0 first, and seven behind", 100, () -> full.type(packed("\0AAAAAAA")));
        is("100, a byte 0 first, foreign ones behind", 100, () -> full.type(-256L));
    }

    private static void typeAllEightBytes() {
        sentence("type: .. (or all eight)");
        FormulaScales x = new FormulaScales();
        is("eight", 8, () -> x.type(packed("AB2C=C2B")));
        is("eight more", 16, () -> x.type(packed(" + AA +A")));
        is("read of all", 4, x::read);
        is("the eighth of the first", 1, () -> x.has(1, 1));
        is("the eighth of the second", 1, () -> x.has(3, 0));
        is("eight of the greatest", 8, () -> new FormulaScales().type(0x7E7E7E7E7E7E7E7EL));
        is("eight of the least", 8, () -> new FormulaScales().type(0x2020202020202020L));
    }

    private static void typeRefusesForeignCharacters() {
        sentence("type: IllegalArgumentException when one of them is not 32 .. 126");
        int[] foreign = {1, 9, 31, 127, 128, 159, 160, 254, 255};
        int[] good = {32, 33, 48, 65, 97, 125, 126};
        for (int place = 0; place < 8; place++) {
            long others = packed("AAAAAAAA") & ~(255L << (8 * place));
            for (int code : foreign) {
                long more = others | (long) code << (8 * place);
                is(code + " at " + place, ARGUMENT, () -> new FormulaScales().type(more));
            }
            for (int code : good) {
                long more = others | (long) code << (8 * place);
                is(code + " at " + place, 8, () -> new FormulaScales().type(more));
            }
        }
        is("-1", ARGUMENT, () -> new FormulaScales().type(-1));
        is("the least long", 0, () -> new FormulaScales().type(Long.MIN_VALUE));
        is("the greatest long", ARGUMENT, () -> new FormulaScales().type(Long.MAX_VALUE));
    }

    private static void typeRefusesMoreThan100() {
        sentence("type: UnsupportedOperationException when there would be more than 100");
        for (int have = 92; have <= 100; have++) {
            for (int more = 0; more <= 8; more++) {
                FormulaScales x = new FormulaScales();
                enter(x, " ".repeat(have));
                long typed = packed("A".repeat(more));
                Object due = have + more <= 100 ? (Object) (have + more) : SUPPORT;
                is(more + " behind " + have, due, () -> x.type(typed));
                is("and then none", due == SUPPORT ? have : due, () -> x.type(0));
            }
        }
    }

    private static void refusedTypeAddsNothing() {
        sentence("type: .. (nothing is added when it throws)");
        FormulaScales x = new FormulaScales();
        enter(x, "A=A");
        for (int place = 0; place < 8; place++) {
            long more = packed("22222222") & ~(255L << (8 * place)) | 127L << (8 * place);
            is("a foreign one at " + place, ARGUMENT, () -> x.type(more));
            is("characters after it", 3, () -> x.type(0));
        }
        is("read after refused ones", 2, x::read);
        is("the formula after refused ones", 1, () -> x.has(1, 0));
        FormulaScales y = new FormulaScales();
        enter(y, "A=A" + " ".repeat(94));
        is("one too many", SUPPORT, () -> y.type(packed("+AAA")));
        is("characters after one too many", 97, () -> y.type(0));
        is("eight", SUPPORT, () -> y.type(packed("+AAAAAAA")));
        is("three, which fit", 100, () -> y.type(packed("   ")));
        is("read of 100", 2, y::read);
        FormulaScales both = new FormulaScales();
        enter(both, " ".repeat(100));
        // Which of the two it throws, the document does not say.
        Object thrown = answerOf(() -> both.type(packed("A\177")));
        is("foreign and too many", true, () -> ARGUMENT.equals(thrown) || SUPPORT.equals(thrown));
        is("characters after both", 100, () -> both.type(0));
    }

    private static void readLeavesNoCharacters() {
        sentence("read: Reads the text, which has no characters then, in any case");
        String[] texts = {"A=A", "A=B", "", "   ", "A=", "A=A0", "((((A", "ABCDEF", "A41=A", "A=A" + " ".repeat(97),
            "A".repeat(100)};
        for (String text : texts) {
            FormulaScales x = after(text);
            is("type(0) after '" + text + "'", 0, () -> x.type(0));
            is("type after '" + text + "'", 4, () -> x.type(packed("B=B2")));
            is("read after '" + text + "'", 2, x::read);
            is("name after '" + text + "'", (int) 'B', () -> x.name(0));
            enter(x, " ".repeat(99));
            is("a hundred after '" + text + "'", 100, () -> x.type(' '));
        }
    }

    private static void emptyTextIsSignAt0() {
        sentence("read: .. (an empty one is SIGN at 0)");
        FormulaScales x = new FormulaScales();
        is("read of a new object's text", S, x::read);
        is("at of a new object's text", 0, x::at);
        is("read again", S, x::read);
        is("at again", 0, x::at);
        FormulaScales y = after("A=A");
        is("read behind a good one", S, y::read);
        is("at behind a good one", 0, y::at);
        hasNoEquation(y);
        FormulaScales z = after("A=A)");
        is("read behind a fault", S, z::read);
        is("at behind a fault", 0, z::at);
        FormulaScales blank = new FormulaScales();
        enter(blank, " ");
        is("read of a blank", S, blank::read);
        is("at of a blank", 1, blank::at);
    }

    private static void readTakesTheEquationAway() {
        sentence("read: Answers how many formulas the equation has, or a fault (there is no equation then)");
        for (int formulas = 2; formulas <= 6; formulas++) {
            reads("A" + "+A".repeat(formulas - 2) + "=A", formulas);
        }
        String[] faulty = {"A=A)", "A=A0", "A=((((A", "A=BCDEFG", "A=A41"};
        int[] faults = {-2, -3, -4, -5, -6};
        for (int i = 0; i < faulty.length; i++) {
            FormulaScales x = after(BALANCED);
            String text = faulty[i];
            is("read of " + text, faults[i], () -> readAnew(x, text));
            hasNoEquation(x);
        }
        FormulaScales x = after("A^+ + B = C + D");
        readAnew(x, "A2 = A");
        is("kinds of the new one alone", 1, x::kinds);
        is("formulas of the new one alone", 2, x::formulas);
        is("formula 2 of the earlier one", NO_SUCH, () -> x.has(2, 0));
        is("number in the new one", 2L, () -> x.number(0, 1));
    }

    private static void atOfTheLatestRead() {
        sentence("at: AT of the latest read's fault (places from 0); -1 when it had none, or there was no read");
        FormulaScales x = new FormulaScales();
        is("no read", -1, x::at);
        enter(x, ")");
        is("no read, but a text", -1, x::at);
        x.read();
        is("a fault at 0", 0, x::at);
        enter(x, "A=A");
        is("a fault at 0, and a text", 0, x::at);
        is("a refused type", ARGUMENT, () -> x.type(1));
        is("a fault at 0, and a refused type", 0, x::at);
        x.read();
        is("no fault", -1, x::at);
        readAnew(x, "A=A0");
        is("a fault at 3", 3, x::at);
        readAnew(x, "  A41=A");
        is("a fault at 2", 2, x::at);
        readAnew(x, "A=" + " ".repeat(98));
        is("a fault at 100", 100, x::at);
        readAnew(x, "A=B");
        is("no fault, though no freedom", -1, x::at);
    }

    private static void stateAndFreedomWithoutAnEquation() {
        sentence("state, freedom: .. NONE_YET (-1) when there is no equation");
        String[] texts = {BALANCED, NONE, MIXED, OPEN};
        int[] freedoms = {1, 0, 1, 2};
        for (int i = 0; i < texts.length; i++) {
            FormulaScales x = new FormulaScales();
            is("state before", -1, x::state);
            is("freedom before", -1, x::freedom);
            readAnew(x, texts[i]);
            is("state of " + texts[i], i, x::state);
            is("freedom of " + texts[i], freedoms[i], x::freedom);
            x.read();
            is("state after", -1, x::state);
            is("freedom after", -1, x::freedom);
        }
    }

    private static void formulasAndKindsWithoutAnEquation() {
        sentence("formulas, kinds: How many .. there are (0 without an equation)");
        String[] texts = {"A=A", "A+B=C", "ABCD^+=A+B+C+D+e^-", "e^-=e^-", "ABCDE=A"};
        int[] formulas = {2, 3, 6, 2, 2};
        int[] kinds = {1, 3, 5, 1, 5};
        for (int i = 0; i < texts.length; i++) {
            FormulaScales x = new FormulaScales();
            is("formulas before", 0, x::formulas);
            is("kinds before", 0, x::kinds);
            readAnew(x, texts[i]);
            is("formulas of " + texts[i], formulas[i], x::formulas);
            is("kinds of " + texts[i], kinds[i], x::kinds);
            readAnew(x, texts[i] + ")");
            is("formulas after", 0, x::formulas);
            is("kinds after", 0, x::kinds);
        }
    }

    private static void nameOfNoSuchKind() {
        sentence("name: .. 0 for the charge. NoSuchElementException when there is no such kind");
        String[] texts = {"A=A", "Zz=Zz", "A^+=A", "ABCDE=A", "ABCDd^-=A"};
        int[] kinds = {1, 1, 2, 5, 5};
        int[] last = {'A', 'Z' + 256 * 'z', 0, 'E', 0};
        for (int i = 0; i < texts.length; i++) {
            FormulaScales x = after(texts[i]);
            int count = kinds[i];
            is("the last name of " + texts[i], last[i], () -> x.name(count - 1));
            is("one behind it", NO_SUCH, () -> x.name(count));
            is("name(5)", NO_SUCH, () -> x.name(5));
            is("name(-1)", NO_SUCH, () -> x.name(-1));
            is("the greatest", NO_SUCH, () -> x.name(MOST));
            is("the least", NO_SUCH, () -> x.name(LEAST));
        }
        // An earlier equation has names where the charge stands now.
        FormulaScales x = after("ABCDE=A");
        readAnew(x, "B^+=B");
        is("the charge behind an earlier equation", 0, () -> x.name(1));
        is("an earlier kind", NO_SUCH, () -> x.name(2));
    }

    private static void hasOfNoSuchFormulaOrKind() {
        sentence("has: .. NoSuchElementException when there is no such formula or kind");
        FormulaScales x = after("A40^40+ + B = C + A^40-");
        is("has(0, 0)", 40, () -> x.has(0, 0));
        is("has(0, 3)", 40, () -> x.has(0, 3));
        is("has(3, 3), of a product as it stands", -40, () -> x.has(3, 3));
        is("has(3, 0), of a product as it stands", 1, () -> x.has(3, 0));
        is("has(1, 0), which it lacks", 0, () -> x.has(1, 0));
        int[] outside = {-1, 4, 5, 6, MOST, LEAST};
        for (int odd : outside) {
            is("has(" + odd + ", 0)", NO_SUCH, () -> x.has(odd, 0));
            is("has(0, " + odd + ")", NO_SUCH, () -> x.has(0, odd));
            is("has(" + odd + ", " + odd + ")", NO_SUCH, () -> x.has(odd, odd));
        }
    }

    private static void productOfNoSuchFormula() {
        sentence("product: .. NoSuchElementException when there is no such formula");
        for (int formulas = 2; formulas <= 6; formulas++) {
            FormulaScales x = after("A" + "+A".repeat(formulas - 2) + "=A");
            int count = formulas;
            is("the last of " + count, true, () -> x.product(count - 1));
            is("the one before", false, () -> x.product(count - 2));
            is("one behind " + count, NO_SUCH, () -> x.product(count));
            is("-1", NO_SUCH, () -> x.product(-1));
            is("the greatest", NO_SUCH, () -> x.product(MOST));
            is("the least", NO_SUCH, () -> x.product(LEAST));
        }
    }

    private static void freeOfNoSuchFormula() {
        sentence("free: .. NoSuchElementException when there is no such formula");
        for (int formulas = 2; formulas <= 6; formulas++) {
            // An earlier equation of six shows whether its last formulas are still asked.
            FormulaScales x = after("A+A+A+A+A=A");
            readAnew(x, "A" + "+A".repeat(formulas - 2) + "=B");
            int count = formulas;
            is("the last of " + count, false, () -> x.free(count - 1));
            is("the one before", count > 2, () -> x.free(count - 2));
            is("one behind " + count, NO_SUCH, () -> x.free(count));
            is("-1", NO_SUCH, () -> x.free(-1));
            is("the greatest", NO_SUCH, () -> x.free(MOST));
            is("the least", NO_SUCH, () -> x.free(LEAST));
        }
    }

    private static void numberOfNoSuchBaseOrFormula() {
        sentence("number: .. as many as the freedom. NoSuchElementException when there is no such base or formula");
        for (int freedom = 0; freedom <= 5; freedom++) {
            FormulaScales x = after("A+A+A+A+A=A");
            readAnew(x, freedom == 0 ? NONE : "A" + "+A".repeat(freedom - 1) + "=A");
            int count = freedom;
            int formulas = freedom == 0 ? 2 : freedom + 1;
            is("freedom", count, x::freedom);
            is("the last base of " + count, count == 0 ? NO_SUCH : (Object) 1L,
                    () -> x.number(count - 1, formulas - 1));
            is("one base behind " + count, NO_SUCH, () -> x.number(count, 0));
            is("base -1", NO_SUCH, () -> x.number(-1, 0));
            is("the greatest base", NO_SUCH, () -> x.number(MOST, 0));
            is("the least base", NO_SUCH, () -> x.number(LEAST, 0));
            is("one formula behind " + formulas, NO_SUCH, () -> x.number(0, formulas));
            is("formula -1", NO_SUCH, () -> x.number(0, -1));
            is("the greatest formula", NO_SUCH, () -> x.number(0, MOST));
            is("the least formula", NO_SUCH, () -> x.number(0, LEAST));
        }
    }

    private static void greatNumbers() {
        sentence("number: Formula i's number in base k, however great");
        FormulaScales x = after("A40BC40^40-+A40B40^40+=A40C3+A40D40^39++B40C40D39^40++A3B40D40^40-");
        long[] due = {335710760, 289098311, 913348800, -290810840, 267209600, 30281480};
        for (int i = 0; i < due.length; i++) {
            int formula = i;
            is("number(0, " + i + ")", due[i], () -> x.number(0, formula));
        }
    }

    private static void weightOfNoSuchKindFirst() {
        sentence("weight: NoSuchElementException, first, when there is no such kind (or no equation)");
        FormulaScales balanced = after(BALANCED);
        is("the last kind", 2L, () -> balanced.weight(1));
        is("one behind it", NO_SUCH, () -> balanced.weight(2));
        String[] texts = {BALANCED, NONE, MIXED, OPEN, "A=", ""};
        int[] outside = {-1, 3, 5, MOST, LEAST};
        for (String text : texts) {
            FormulaScales x = after(text);
            for (int odd : outside) {
                is("weight(" + odd + ") of '" + text + "'", NO_SUCH, () -> x.weight(odd));
            }
        }
        is("no equation", NO_SUCH, () -> new FormulaScales().weight(0));
        FormulaScales fault = after(BALANCED);
        readAnew(fault, "A=");
        is("no equation any more", NO_SUCH, () -> fault.weight(0));
    }

    private static void weightOnlyWhenBalanced() {
        sentence("weight: .. IllegalStateException when the equation is not balanced");
        for (String text : UNBALANCED) {
            FormulaScales x = after(BALANCED);
            readAnew(x, text);
            is("weight of " + text, STATE, () -> x.weight(0));
            is("the last kind of " + text, STATE, () -> x.weight(x.kinds() - 1));
            is("one kind more of " + text, NO_SUCH, () -> x.weight(x.kinds()));
        }
    }

    private static void weightOfTheCharge() {
        sentence("weight: .. on either side (of the charge perhaps less than 0)");
        String[] texts = {"A^2- + B^- = AB^3-", "A^2+ + B^- = AB^+", "A = A^+ + e^-", "A + e^- = A^-", "e^-=e^-"};
        long[] due = {-3, 1, 0, -1, -1};
        for (int i = 0; i < texts.length; i++) {
            FormulaScales x = after(texts[i]);
            is("the charge of " + texts[i], due[i], () -> x.weight(x.kinds() - 1));
        }
        FormulaScales x = after("A2 + B3 = A3B");
        is("weight of A", 18L, () -> x.weight(0));
        is("weight of B", 6L, () -> x.weight(1));
    }

    private static void greatWeights() {
        sentence("weight: how much of a kind there is on either side, however much");
        FormulaScales x = after("A40B40D^40-+A40C40D40^39-+AB40D40^40+=A40D40^40++B40C39D40^40-+A40B39C40^40+");
        long[] due = {32949828760L, 32632956800L, 64202244760L, 31851646400L, 998404760L};
        for (int i = 0; i < due.length; i++) {
            int kind = i;
            is("weight(" + i + ")", due[i], () -> x.weight(kind));
        }
    }

    private static void writtenOnlyWhenBalanced() {
        sentence("written: IllegalStateException when the equation is not balanced");
        String[] texts = {NONE, MIXED, OPEN, "A=", ""};
        int[] places = {0, 1, 5, -1, 100, MOST, LEAST};
        for (String text : texts) {
            FormulaScales x = after(BALANCED);
            readAnew(x, text);
            for (int place : places) {
                is("written(" + place + ") of '" + text + "'", STATE, () -> x.written(place));
            }
        }
        is("written before a read", STATE, () -> new FormulaScales().written(0));
    }

    private static void writtenHasTwoEnds() {
        sentence("written: Character i, from 0 .. -1 when there is none");
        String[] texts = {"A=A", "A=A2", "A3=A2", BALANCED};
        String[] due = {"A = A", "2 A = A2", "2 A3 = 3 A2", "2 H2 + O2 = 2 H2O"};
        for (int i = 0; i < texts.length; i++) {
            // What a longer equation left behind must not show.
            FormulaScales x = after(LONG_LINE);
            readAnew(x, texts[i]);
            String line = due[i];
            for (int j = 0; j < line.length(); j++) {
                int place = j;
                is("written(" + j + ") of " + line, (int) line.charAt(j), () -> x.written(place));
            }
            int[] outside = {-1, line.length(), line.length() + 1, 99, 100, 169, 170, 200, 256, MOST, LEAST};
            for (int place : outside) {
                is("written(" + place + ") of " + line, -1, () -> x.written(place));
            }
        }
    }

    private static void writtenNumbersThatAreNot1() {
        sentence("written: .. its number and a blank behind it, if that is not 1 (else neither)");
        String[] texts = {"A=A", "A=A2", "A2=A", "A=A9", "A=A10", "A=A40", "A39=A40", "A=1A", "2A=A3",
            "A+B11=AB", "(A4)10B=A+B"};
        String[] due = {"A = A", "2 A = A2", "A2 = 2 A", "9 A = A9", "10 A = A10", "40 A = A40", "40 A39 = 39 A40",
            "A = 1A", "3 2A = 2 A3", "11 A + B11 = 11 AB", "(A4)10B = 40 A + B"};
        for (int i = 0; i < texts.length; i++) {
            FormulaScales x = after(texts[i]);
            is("written of " + texts[i], due[i], () -> line(x));
        }
    }

    private static void writtenWithoutBlanksAround() {
        sentence("written: .. the formula's text as typed, without blanks around it; \" + \" .. \" = \"");
        String due = "[Cu(H2O)4]^2+ + 2 e^- = Cu.4H2O";
        is("no blanks", due, () -> line(after("[Cu(H2O)4]^2++e^-=Cu.4H2O")));
        is("a blank each", due, () -> line(after(" [Cu(H2O)4]^2+ + e^- = Cu.4H2O ")));
        is("many blanks", due, () -> line(after("   [Cu(H2O)4]^2+   +  e^-   =   Cu.4H2O    ")));
        is("three on a side", "A + B + C = ABC", () -> line(after("A+B+C=ABC")));
        is("three behind the =", "ABC = A + B + C", () -> line(after("ABC=A+B+C")));
        is("a charge before a +", "A^+ + e^- = A", () -> line(after("A^++e^-=A")));
    }

    private static void longestWritten() {
        sentence("written: the equation as it is written, however long");
        String due = "157062736 A38B20C37D11^37+ + 135583869 A10B40C33D39^40+ + 135217255 A40B39C3D37^38-"
                + " + 146226625 A25B11C39D40^37- = 290787839 A14B39C39D18^40- + 315834583 A39B13C16D40^39+";
        FormulaScales x = after(LONG_LINE);
        is("a text of 100", 100, LONG_LINE::length);
        is("its line", due, () -> line(x));
        is("its last character", (int) '+', () -> x.written(169));
        is("behind it", -1, () -> x.written(170));
    }

    private static void solvesCountsOnlyWhatThereIs() {
        sentence("solves: .. (those that there are not count for nothing ..)");
        for (int formulas = 2; formulas <= 5; formulas++) {
            // Six full columns of an earlier equation must not count.
            FormulaScales x = after("A+A+A+A+A=A");
            readAnew(x, "A" + "+A".repeat(formulas - 2) + "=A");
            for (int i = 0; i < 5; i++) {
                int[] n = new int[5];
                n[i] = 1;
                is("a 1 for formula " + i + " of " + formulas, i >= formulas,
                        () -> x.solves(n[0], n[1], n[2], n[3], n[4]));
                n[i] = LEAST;
                is("the least for formula " + i + " of " + formulas, i >= formulas,
                        () -> x.solves(n[0], n[1], n[2], n[3], n[4]));
            }
        }
    }

    private static void solvesForAnyInts() {
        sentence("solves: .. (.. any ints, all 0, too)");
        String[] texts = {BALANCED, NONE, MIXED, OPEN, "A+B+C+D=E"};
        for (String text : texts) {
            FormulaScales x = after(text);
            is("all 0 for " + text, true, () -> x.solves(0, 0, 0, 0, 0));
        }
        FormulaScales water = after(BALANCED);
        is("the base", true, () -> water.solves(2, 1, 2, 0, 0));
        is("the base below 0", true, () -> water.solves(-2, -1, -2, 0, 0));
        is("the base many times", true, () -> water.solves(LEAST, LEAST / 2, LEAST, 0, 0));
        is("a half", false, () -> water.solves(1, 1, 1, 0, 0));
        FormulaScales two = after("A40=A40");
        is("the greatest twice", true, () -> two.solves(MOST, MOST, 0, 0, 0));
        is("the least twice", true, () -> two.solves(LEAST, LEAST, 0, 0, 0));
        is("the greatest and the least", false, () -> two.solves(MOST, LEAST, 0, 0, 0));
        is("the least and the greatest", false, () -> two.solves(LEAST, MOST, 0, 0, 0));
        sentence("solves: sums that would wrap round to 0 are none");
        FormulaScales sixteen = after("A16=A16");
        is("2 to the 32nd", false, () -> sixteen.solves(1 << 28, 0, 0, 0, 0));
        is("twice the least", false, () -> after("A2=A").solves(LEAST, 0, 0, 0, 0));
        FormulaScales three = after("A+A=A");
        is("twice the greatest is not -2", false, () -> three.solves(MOST, MOST, -2, 0, 0));
        is("twice the least is not 0", false, () -> three.solves(LEAST, LEAST, 0, 0, 0));
        is("the greatest and 1 are not the least", false, () -> three.solves(MOST, 1, LEAST, 0, 0));
        is("the least behind the =", false, () -> three.solves(LEAST, 0, MOST, 0, 0));
        FormulaScales charge = after("A^16+=A^16+");
        is("a charge that would wrap round", false, () -> charge.solves(1 << 28, 0, 0, 0, 0));
    }

    private static void solvesNotWithoutAnEquationOrWithSix() {
        sentence("solves: IllegalStateException when there is no equation, or it has six formulas");
        is("no read", STATE, () -> new FormulaScales().solves(0, 0, 0, 0, 0));
        is("five", true, () -> after("A+A+A+A=A").solves(1, 1, 1, 1, 4));
        is("five, not solved", false, () -> after("A+A+A+A=A").solves(1, 1, 1, 1, 5));
        is("six", STATE, () -> after("A+A+A+A+A=A").solves(0, 0, 0, 0, 0));
        is("six, balanced", STATE, () -> after("A+B+C+D+E=ABCDE").solves(1, 1, 1, 1, 1));
        FormulaScales x = after("A+A+A+A=A");
        readAnew(x, "A+");
        is("no equation any more", STATE, () -> x.solves(1, 1, 1, 1, 4));
        readAnew(x, "A=A");
        is("an equation again", true, () -> x.solves(1, 1, 1, 1, 4));
    }

    /** Some hundred and thirty calls, so that an object can be asked three times within its 512. */
    private static String answers(FormulaScales x) {
        StringBuilder told = new StringBuilder();
        told.append(x.at()).append(' ').append(x.state()).append(' ').append(x.freedom()).append(' ');
        told.append(x.formulas()).append(' ').append(x.kinds());
        for (int i = 0; i < 6; i++) {
            int formula = i;
            told.append(' ').append(answerOf(() -> x.product(formula))).append(answerOf(() -> x.free(formula)));
            told.append(answerOf(() -> x.name(formula))).append(answerOf(() -> x.weight(formula)));
            for (int k = 0; k < 6; k++) {
                int kind = k;
                told.append(answerOf(() -> x.has(formula, kind))).append(answerOf(() -> x.number(kind, formula)));
            }
        }
        return told.append(answerOf(() -> line(x))).append(answerOf(() -> x.solves(2, 1, 2, 0, 0))).toString();
    }

    private static void refusedCallsChangeNothing() {
        sentence("a refused call, and a text that is not yet read, change no answer");
        String[] texts = {BALANCED, NONE, MIXED, OPEN, "A=", "A+B+C+D=AB+CD"};
        for (String text : texts) {
            FormulaScales x = after(text);
            String before = answers(x);
            is("type refused", ARGUMENT, () -> x.type(-1));
            is("all answers after a refused type, of '" + text + "'", before, () -> answers(x));
            enter(x, "Z^+".repeat(33));
            is("type refused", SUPPORT, () -> x.type(packed("ZZ")));
            is("all answers while another text is typed, of '" + text + "'", before, () -> answers(x));
        }
    }
}
