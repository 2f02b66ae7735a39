/** Promise 1: no text, no code, a picture of color 0; what each call answers then. */
public final class NewObjectTest {
    private static final String BLACK = "0 0 0 0 0 0 0 0/".repeat(4);

    public static void main(String[] args) {
        noText();
        noCode();
        pictureOfColor0();
        textAloneIsNoCode();
        refusedTextIsNoCode();
        firstCalls();
        objectsShareNothing();
        Check.end();
    }

    private static void noText() {
        PixelFormula formula = new PixelFormula();
        Check.same("type(0), the length of no text", formula.type(0), 0);
        Check.no("compile() of no text", formula.compile());
        formula.erase();
        Check.no("compile() of an erased one", formula.compile());
        Check.same("type(0) behind it", formula.type(0), 0);
        hasNoCode(formula);
    }

    private static void noCode() {
        hasNoCode(new PixelFormula());
    }

    private static void hasNoCode(PixelFormula formula) {
        Check.same("size()", formula.size(), 0);
        for (int i = -1; i <= 3; i++) {
            int asked = i;
            Check.fails("instruction(" + i + ", 0)", IndexOutOfBoundsException.class, () -> formula.instruction(asked, 0));
            Check.fails("instruction(0, " + i + ")", IndexOutOfBoundsException.class, () -> formula.instruction(0, asked));
            Check.fails("result(" + i + ")", IllegalStateException.class, () -> formula.result(asked));
            Check.fails("value(" + i + ")", IndexOutOfBoundsException.class, () -> formula.value(asked, 0, 0, 0, 0));
            Check.fails("value(" + i + ") of no color", IndexOutOfBoundsException.class,
                () -> formula.value(asked, 0, 0, 0, -1));
            Check.fails("run(" + i + ")", IllegalStateException.class, () -> formula.run(asked));
        }
        Check.same("types", State.types(formula), "0".repeat(26));
        Check.fails("typeOf(-1)", IndexOutOfBoundsException.class, () -> formula.typeOf(-1));
        Check.fails("typeOf(26)", IndexOutOfBoundsException.class, () -> formula.typeOf(26));
    }

    private static void pictureOfColor0() {
        PixelFormula formula = new PixelFormula();
        Check.same("picture", Check.picture(formula), BLACK);
        Check.fails("pixel(8, 0)", IndexOutOfBoundsException.class, () -> formula.pixel(8, 0));
        Check.fails("pixel(0, 4)", IndexOutOfBoundsException.class, () -> formula.pixel(0, 4));
        formula.paint(7, 3, 0xFFFFFF);
        Check.same("pixel(7, 3) painted without code", formula.pixel(7, 3), 0xFFFFFF);
        Check.fails("paint of no color", IllegalArgumentException.class, () -> formula.paint(0, 0, -1));
        hasNoCode(formula);
    }

    private static void textAloneIsNoCode() {
        PixelFormula formula = new PixelFormula();
        Check.type(formula, "a=c;a");
        hasNoCode(formula);
        Check.yes("compile()", formula.compile());
        Check.same("size()", formula.size(), 3);
        Check.same("typeOf(0)", formula.typeOf(0), 3);
        Check.same("picture behind compile()", Check.picture(formula), BLACK);
    }

    private static void refusedTextIsNoCode() {
        PixelFormula formula = new PixelFormula();
        Check.no("compile() of a=c;a.x", Check.compile(formula, "a=c;a.x"));
        hasNoCode(formula);
    }

    /** An accepted text as the first thing: the shortest one there is. */
    private static void firstCalls() {
        PixelFormula formula = new PixelFormula();
        Check.same("type(c)", formula.type('c'), 1);
        Check.yes("compile() of c", formula.compile());
        formula.run(Integer.MIN_VALUE);
        Check.same("picture behind run of c", Check.picture(formula), BLACK);
    }

    private static void objectsShareNothing() {
        PixelFormula one = Check.compiled("a=c;c");
        one.paint(0, 0, 5);
        PixelFormula other = new PixelFormula();
        Check.same("other type(0)", other.type(0), 0);
        Check.same("other pixel(0, 0)", other.pixel(0, 0), 0);
        hasNoCode(other);
        Check.yes("compile() of the other", Check.compile(other, "-c"));
        other.paint(0, 0, 9);
        Check.same("one size()", one.size(), 3);
        Check.same("one type(0)", one.type(0), 5);
        Check.same("one typeOf(0)", one.typeOf(0), 3);
        Check.same("one pixel(0, 0)", one.pixel(0, 0), 5);
        Check.same("one value(2)", one.value(2, 0, 0, 0, 1), 256);
    }
}
