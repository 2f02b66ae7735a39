/** Promise 1: no text, no code, a picture of color 0. */
public final class NewObjectTest {
    public static void main(String[] args) {
        PixelFormula formula = new PixelFormula();
        Check.same("size()", formula.size(), 0);
        Check.same("type(0), the length of no text", formula.type(0), 0);
        Check.no("compile() of no text", formula.compile());
        Check.same("size() behind it", formula.size(), 0);
        Check.fails("instruction(0, 0)", IndexOutOfBoundsException.class, () -> formula.instruction(0, 0));
        Check.fails("result(0)", IllegalStateException.class, () -> formula.result(0));
        Check.fails("result(3)", IllegalStateException.class, () -> formula.result(3));
        Check.fails("value(0, ..)", IndexOutOfBoundsException.class, () -> formula.value(0, 0, 0, 0, 0));
        Check.fails("run(0)", IllegalStateException.class, () -> formula.run(0));
        for (int letter = 0; letter < 26; letter++) {
            Check.same("typeOf(" + letter + ")", formula.typeOf(letter), 0);
        }
        Check.same("picture", Check.picture(formula), "0 0 0 0 0 0 0 0/".repeat(4));
        objectsShareNothing();
        Check.end();
    }

    private static void objectsShareNothing() {
        PixelFormula one = Check.compiled("a=c;c");
        one.paint(0, 0, 5);
        PixelFormula other = new PixelFormula();
        Check.same("other size()", other.size(), 0);
        Check.same("other typeOf(0)", other.typeOf(0), 0);
        Check.same("other pixel(0, 0)", other.pixel(0, 0), 0);
        Check.same("other type(0)", other.type(0), 0);
    }
}
