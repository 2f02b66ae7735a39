import java.util.function.Consumer;
import java.util.function.Supplier;

/** "A call that throws changes nothing; where several exceptions that a call names fit, the one named first is thrown." */
public final class RefusedCallsTest {
    private static final int MOST = Integer.MAX_VALUE;
    private static final int LEAST = Integer.MIN_VALUE;
    private static final int[] NO_COLORS = {LEAST, -1, 0x1000000, MOST};
    private static final Class<IllegalStateException> STATE = IllegalStateException.class;
    private static final Class<IllegalArgumentException> ARGUMENT = IllegalArgumentException.class;
    private static final Class<IndexOutOfBoundsException> INDEX = IndexOutOfBoundsException.class;

    private final Supplier<PixelFormula> maker;

    private RefusedCallsTest(Supplier<PixelFormula> maker) {
        this.maker = maker;
    }

    public static void main(String[] args) {
        RefusedCallsTest fresh = new RefusedCallsTest(PixelFormula::new);
        fresh.inAnyState();
        fresh.withoutCode();
        RefusedCallsTest full = new RefusedCallsTest(RefusedCallsTest::fullText);
        full.inAnyState();
        full.withoutCode();
        full.withFullText();
        RefusedCallsTest refused = new RefusedCallsTest(RefusedCallsTest::refusedText);
        refused.inAnyState();
        refused.withoutCode();
        RefusedCallsTest compiled = new RefusedCallsTest(RefusedCallsTest::codeAndFullText);
        compiled.inAnyState();
        compiled.withCode(13);
        compiled.withFullText();
        Check.end();
    }

    private static PixelFormula fullText() {
        PixelFormula formula = new PixelFormula();
        Check.type(formula, "a=1;".repeat(39) + "a+-c");
        formula.paint(3, 3, 0x030303);
        return formula;
    }

    private static PixelFormula refusedText() {
        PixelFormula formula = new PixelFormula();
        Check.no("compile() of a=c;a+", Check.compile(formula, "a=c;a+"));
        return formula;
    }

    /** Its text is another one than that of its code. */
    private static PixelFormula codeAndFullText() {
        PixelFormula formula = Check.compiled("q=c.xy;w=M(q,q);V(w*q,1)*c");
        formula.paint(7, 3, 0xFFFFFF);
        formula.paint(0, 0, 0x112233);
        formula.run(100);
        formula.erase();
        Check.type(formula, "a=1;".repeat(39) + "a+-c");
        return formula;
    }

    /** The call throws on an object of its own, which must then be like a second one without that call. */
    private void throwing(Class<? extends RuntimeException> due, String what, Consumer<PixelFormula> call) {
        PixelFormula untouched = maker.get();
        PixelFormula formula = maker.get();
        Check.fails(what, due, () -> call.accept(formula));
        Check.same("state behind " + what, State.of(formula), State.of(untouched));
        // What the text is can be seen only from its code.
        Check.same("compile() behind " + what, formula.compile() ? 1 : 0, untouched.compile() ? 1 : 0);
        Check.same("all behind " + what, State.of(formula), State.of(untouched));
    }

    private void inAnyState() {
        wrongLetters();
        wrongPoints();
        wrongColors();
        wrongWords();
    }

    private void wrongLetters() {
        int[] wrong = {LEAST, -1, 26, 27, 'a', 'z', MOST};
        for (int letter : wrong) {
            throwing(INDEX, "typeOf(" + letter + ")", formula -> formula.typeOf(letter));
        }
    }

    private void wrongPoints() {
        int[][] wrong = {{-1, 0}, {8, 0}, {0, -1}, {0, 4}, {8, 4}, {-1, -1}, {-1, 1}, {8, 2}, {LEAST, 3}, {7, MOST}};
        int[] colors = {0, 0xFFFFFF, -1, 0x1000000};
        for (int[] point : wrong) {
            int x = point[0];
            int y = point[1];
            throwing(INDEX, "pixel(" + x + ", " + y + ")", formula -> formula.pixel(x, y));
            for (int color : colors) {
                throwing(INDEX, "paint(" + x + ", " + y + ", " + color + ")", formula -> formula.paint(x, y, color));
            }
        }
    }

    private void wrongColors() {
        for (int color : NO_COLORS) {
            throwing(ARGUMENT, "paint(0, 0, " + color + ")", formula -> formula.paint(0, 0, color));
            throwing(ARGUMENT, "paint(7, 3, " + color + ")", formula -> formula.paint(7, 3, color));
        }
    }

    private void wrongWords() {
        int[] wrong = {1, 32, 127, 128, 0x2000, 0x200000, 0x20000000, 0x63637F63, 0x2B632063, 0x7F2B632B, 0x2B632B01, -1, LEAST};
        for (int word : wrong) {
            throwing(ARGUMENT, "type(" + word + ")", formula -> formula.type(word));
        }
    }

    private void withFullText() {
        int[] words = {0x21, 0x7E, 0x63, 0x2B63, 0x2B000063, 0x2B632B63, 0x63000000};
        for (int word : words) {
            throwing(STATE, "type(" + word + ") at 160", formula -> formula.type(word));
        }
    }

    private void withoutCode() {
        int[] some = {LEAST, -1, 0, 1, 2, 3, 99, 100, MOST};
        for (int i : some) {
            throwing(STATE, "result(" + i + ")", formula -> formula.result(i));
            throwing(STATE, "run(" + i + ")", formula -> formula.run(i));
            throwing(INDEX, "instruction(" + i + ", 0)", formula -> formula.instruction(i, 0));
            throwing(INDEX, "instruction(0, " + i + ")", formula -> formula.instruction(0, i));
            throwing(INDEX, "value(" + i + ")", formula -> formula.value(i, 0, 0, 0, 0));
            for (int color : NO_COLORS) {
                throwing(INDEX, "value(" + i + ") of " + color, formula -> formula.value(i, 0, 0, 0, color));
            }
        }
    }

    private void withCode(int size) {
        Check.same("size()", maker.get().size(), size);
        int[] wrong = {LEAST, -1, size, size + 1, 99, 100, MOST};
        for (int k : wrong) {
            for (int what = -1; what <= 3; what++) {
                int asked = what;
                throwing(INDEX, "instruction(" + k + ", " + what + ")", formula -> formula.instruction(k, asked));
            }
            throwing(INDEX, "value(" + k + ")", formula -> formula.value(k, 0, 0, 0, 0));
            throwing(INDEX, "value(" + k + ") of no color", formula -> formula.value(k, 0, 0, 0, -1));
        }
        int[] none = {LEAST, -1, 3, MOST};
        for (int i : none) {
            throwing(INDEX, "result(" + i + ")", formula -> formula.result(i));
            throwing(INDEX, "instruction(0, " + i + ")", formula -> formula.instruction(0, i));
            throwing(INDEX, "instruction(last, " + i + ")", formula -> formula.instruction(size - 1, i));
        }
        for (int color : NO_COLORS) {
            throwing(ARGUMENT, "value(0) of " + color, formula -> formula.value(0, 0, 0, 0, color));
            throwing(ARGUMENT, "value(last) of " + color, formula -> formula.value(size - 1, 0, 0, 0, color));
        }
    }
}
