/** Counts wrong answers, and has the steps that many tests share. */
final class Check {
    private static final String[] KINDS = {
        "CONSTANT", "INPUT", "ADD", "SUB", "MUL", "DIV", "MIN", "MAX", "STEP", "NEG", "ABS", "FLOOR"
    };
    private static int wrong = 0;

    private Check() {
    }

    static void same(String what, long got, long due) {
        if (got != due) {
            say(what, String.valueOf(got), String.valueOf(due));
        }
    }

    static void same(String what, String got, String due) {
        if (!got.equals(due)) {
            say(what, got, due);
        }
    }

    static void yes(String what, boolean got) {
        same(what, got ? 1 : 0, 1);
    }

    static void no(String what, boolean got) {
        same(what, got ? 1 : 0, 0);
    }

    /** The call throws that very class of exception, not one below it. */
    static void fails(String what, Class<? extends RuntimeException> due, Runnable call) {
        String got = "nothing";
        try {
            call.run();
        } catch (RuntimeException e) {
            got = e.getClass().getName();
        }
        same(what + " throws", got, due.getName());
    }

    private static void say(String what, String got, String due) {
        wrong++;
        System.out.println(what + " answered " + got + ", due is " + due);
    }

    static void end() {
        if (wrong > 0) {
            System.out.println(wrong + " wrong");
            System.exit(1);
        }
    }

    /** Four characters a call, because an object is good for 512 calls only. */
    static void type(PixelFormula formula, String text) {
        for (int i = 0; i < text.length(); i += 4) {
            int word = 0;
            for (int j = i; j < i + 4 && j < text.length(); j++) {
                word = word << 8 | text.charAt(j);
            }
            formula.type(word);
        }
    }

    /** Puts another text in the place of the one that is there, and compiles it. */
    static boolean compile(PixelFormula formula, String text) {
        formula.erase();
        type(formula, text);
        return formula.compile();
    }

    /** A new object with the code of a text that must be accepted. */
    static PixelFormula compiled(String text) {
        PixelFormula formula = new PixelFormula();
        yes("compile() of " + text, compile(formula, text));
        return formula;
    }

    /** All of the code: the instructions in their order, then the result. */
    static String code(PixelFormula formula) {
        StringBuilder text = new StringBuilder();
        int size = formula.size();
        for (int k = 0; k < size; k++) {
            text.append(KINDS[formula.instruction(k, 0)]).append(' ').append(formula.instruction(k, 1));
            text.append(' ').append(formula.instruction(k, 2)).append("; ");
        }
        text.append("->");
        for (int i = 0; i < 3; i++) {
            text.append(' ').append(formula.result(i));
        }
        return text.toString();
    }

    static String picture(PixelFormula formula) {
        StringBuilder text = new StringBuilder();
        for (int y = 0; y < 4; y++) {
            for (int x = 0; x < 8; x++) {
                text.append(Integer.toHexString(formula.pixel(x, y))).append(x < 7 ? ' ' : '/');
            }
        }
        return text.toString();
    }
}
