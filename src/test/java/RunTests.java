import java.util.Random;

/**
 * Runs of 512 calls on one object, the most that the document speaks of, each call's answer held
 * against the model's: texts typed in pieces, refused calls among them, and questions of all kinds.
 */
public final class RunTests extends Probe {
    private static final int RUNS = 1500;
    private static final int CALLS = 512;
    private static final int[] ODD = {Integer.MIN_VALUE, -2, -1, 6, 7, 100, Integer.MAX_VALUE};
    private static final int[] BYTES = {0, 1, 31, 32, 65, 126, 127, 128, 255};

    private final Random random;
    private final FormulaScales x = new FormulaScales();
    private final Model model = new Model();
    private final StringBuilder told = new StringBuilder();
    private String waiting = "";

    private RunTests(long seed) {
        random = new Random(seed);
    }

    public static void main(String[] args) {
        for (int i = 0; i < RUNS; i++) {
            new RunTests(i).run();
        }
        end();
    }

    private void run() {
        for (int i = 0; i < CALLS; i++) {
            int chance = random.nextInt(40);
            if (chance == 0) {
                typeOdd();
            } else if (!waiting.isEmpty() && chance < 30) {
                typePiece();
            } else if (waiting.isEmpty() && chance < 6 || chance == 39) {
                // Now and then a text is cut off in its midst, and its rest begins the next one.
                waiting = chance < 6 ? Texts.any(random) : waiting;
                ask("read()", x::read, model::read);
            } else {
                question(random.nextInt(14));
            }
        }
    }

    private void ask(String what, Call call, Call due) {
        told.append(what).append(' ');
        // All that came before is told only where an answer is wrong.
        Object want = answerOf(due);
        Object got = answerOf(call);
        is(want.equals(got) ? what : told.toString(), want, () -> got);
    }

    private void typePiece() {
        int size = Math.min(waiting.length(), 1 + random.nextInt(8));
        long more = packed(waiting.substring(0, size));
        waiting = waiting.substring(size);
        if (size < 7 && random.nextInt(4) == 0) {
            // Behind a byte 0 anything may stand.
            more |= random.nextLong() << (8 * size + 8);
        }
        type(more);
    }

    private void typeOdd() {
        long more = 0;
        for (int i = 0; i < 8; i++) {
            int odd = random.nextInt(3) > 0 ? 32 + random.nextInt(95) : BYTES[random.nextInt(BYTES.length)];
            more = more << 8 | odd;
        }
        type(random.nextInt(4) == 0 ? random.nextLong() : more);
    }

    private void type(long more) {
        // The document does not say which of two faults is told; nothing may be added in either case.
        if (Model.isForeign(more) && model.isTooLong(more)) {
            Object got = answerOf(() -> x.type(more));
            is("type(" + more + ") with two faults", true, () -> ARGUMENT.equals(got) || SUPPORT.equals(got));
        } else {
            ask("type(" + more + ")", () -> x.type(more), () -> model.type(more));
        }
    }

    private int any(int bound) {
        return random.nextInt(8) == 0 ? ODD[random.nextInt(ODD.length)] : random.nextInt(bound + 1);
    }

    private void question(int which) {
        int f = any(model.formulas());
        int k = any(model.kinds());
        int b = any(Math.max(0, model.freedom()));
        int i = any(60);
        switch (which) {
            case 0 -> ask("at()", x::at, model::at);
            case 1 -> ask("state()", x::state, model::state);
            case 2 -> ask("freedom()", x::freedom, model::freedom);
            case 3 -> ask("formulas()", x::formulas, model::formulas);
            case 4 -> ask("kinds()", x::kinds, model::kinds);
            case 5 -> ask("name(" + k + ")", () -> x.name(k), () -> model.name(k));
            case 6, 7 -> ask("has(" + f + ", " + k + ")", () -> x.has(f, k), () -> model.has(f, k));
            case 8 -> ask("product(" + f + ")", () -> x.product(f), () -> model.product(f));
            case 9 -> ask("free(" + f + ")", () -> x.free(f), () -> model.free(f));
            case 10 -> ask("number(" + b + ", " + f + ")", () -> x.number(b, f), () -> model.number(b, f));
            case 11 -> ask("weight(" + k + ")", () -> x.weight(k), () -> model.weight(k));
            case 12 -> ask("written(" + i + ")", () -> x.written(i), () -> model.written(i));
            default -> solves();
        }
    }

    private void solves() {
        int[] n = new int[5];
        boolean known = model.freedom() > 0 && random.nextInt(3) > 0;
        int times = random.nextInt(7) - 3;
        for (int i = 0; i < 5; i++) {
            n[i] = random.nextInt(3) == 0 ? random.nextInt() : random.nextInt(5) - 2;
            if (known && i < model.formulas()) {
                n[i] = (int) (times * model.number(model.freedom() - 1, i));
            }
        }
        ask("solves(" + n[0] + ", " + n[1] + ", " + n[2] + ", " + n[3] + ", " + n[4] + ")",
                () -> x.solves(n[0], n[1], n[2], n[3], n[4]), () -> model.solves(n));
    }
}
