import java.util.Random;

/** Makes texts by a seed: equations, many of them spoiled, and such as have great numbers. */
final class Texts {
    private static final String ALPHABET = "HOFeNacl0123456789()[].^+-= e~";

    private Texts() {
    }

    /** A text of at most 100 characters. */
    static String any(Random random) {
        String text = random.nextInt(3) == 0 ? wide(random) : spoiled(random, equation(random));
        return text.length() > 100 ? text.substring(0, 100) : text;
    }

    /** Full rows of great amounts, for great numbers. */
    private static String wide(Random random) {
        StringBuilder text = new StringBuilder();
        int formulas = 2 + random.nextInt(5);
        int sides = 1 + random.nextInt(formulas - 1);
        int kinds = 1 + random.nextInt(5);
        int most = random.nextBoolean() ? 40 : 1 + random.nextInt(6);
        boolean charged = kinds < 5 && random.nextBoolean();
        for (int i = 0; i < formulas; i++) {
            text.append(i == 0 ? "" : i == sides ? "=" : "+");
            int begin = text.length();
            for (int kind = 0; kind < kinds; kind++) {
                if (random.nextInt(3) > 0 || text.length() == begin && kind == kinds - 1) {
                    int count = 1 + random.nextInt(most);
                    text.append("ABCDE".charAt(kind)).append(count > 1 ? "" + count : "");
                }
            }
            if (charged && random.nextInt(3) > 0) {
                text.append('^').append(1 + random.nextInt(most)).append(random.nextBoolean() ? '+' : '-');
            }
        }
        return text.toString();
    }

    private static String equation(Random random) {
        StringBuilder text = new StringBuilder();
        int formulas = 2 + random.nextInt(random.nextInt(8) == 0 ? 6 : 4);
        int sides = 1 + random.nextInt(formulas - 1);
        for (int i = 0; i < formulas; i++) {
            blanks(random, text);
            text.append(i == 0 ? "" : i == sides ? "=" : "+");
            blanks(random, text);
            if (random.nextInt(12) == 0) {
                text.append("e^-");
            } else {
                formula(random, text);
            }
        }
        blanks(random, text);
        return text.toString();
    }

    private static void blanks(Random random, StringBuilder text) {
        text.append("  ", 0, random.nextInt(8) == 0 ? 2 : random.nextInt(2));
    }

    private static void formula(Random random, StringBuilder text) {
        int parts = random.nextInt(6) == 0 ? 2 : 1;
        for (int i = 0; i < parts; i++) {
            text.append(i == 0 ? "" : ".");
            number(random, text, 8);
            units(random, text, 0);
        }
        if (random.nextInt(5) == 0) {
            text.append('^');
            number(random, text, 2);
            text.append(random.nextBoolean() ? '+' : '-');
        }
    }

    private static void units(Random random, StringBuilder text, int depth) {
        int units = 1 + random.nextInt(2);
        for (int i = 0; i < units; i++) {
            if (random.nextInt(depth == 0 ? 5 : 3) == 0 && depth < 5) {
                boolean round = random.nextBoolean();
                text.append(round ? '(' : '[');
                units(random, text, depth + 1);
                text.append(round ? ')' : ']');
            } else {
                String[] elements = {"H", "O", "H", "O", "Fe", "C", "C", "F", "Na"};
                text.append(elements[random.nextInt(random.nextInt(10) == 0 ? 9 : 7)]);
            }
            number(random, text, 3);
        }
    }

    private static void number(Random random, StringBuilder text, int rare) {
        if (random.nextInt(rare) == 0) {
            text.append(random.nextInt(40) == 0 ? random.nextInt(120) : 1 + random.nextInt(5));
        }
    }

    private static String spoiled(Random random, String equation) {
        StringBuilder text = new StringBuilder(equation);
        int changes = random.nextInt(3) == 0 ? 1 + random.nextInt(2) : 0;
        for (int i = 0; i < changes; i++) {
            int place = random.nextInt(text.length());
            char c = ALPHABET.charAt(random.nextInt(ALPHABET.length()));
            switch (random.nextInt(4)) {
                case 0 -> text.deleteCharAt(place);
                case 1 -> text.setCharAt(place, c);
                case 2 -> text.insert(place, c);
                default -> text.setLength(place + 1);
            }
            if (text.length() == 0) {
                text.append('H');
            }
        }
        return text.toString();
    }
}
