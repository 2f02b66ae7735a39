/** Promise 8: the types of the variables behind the text that was compiled last. */
public final class TypeOfTest {
    public static void main(String[] args) {
        PixelFormula formula = Check.compiled("a=x;b=c.xy;d=c;m=M(b,b);w=m*b;c");
        due(formula, "12030000000040000000002000");
        Check.yes("compile()", Check.compile(formula, "a=c;a=a.x;b=a;b=c;V(a,a,a)"));
        due(formula, "13000000000000000000000000");
        Check.no("a refused text", Check.compile(formula, "a=c.xy;d=1;d"));
        due(formula, "13000000000000000000000000");
        formula.erase();
        Check.type(formula, "s=1;c");
        due(formula, "13000000000000000000000000");
        Check.yes("compile()", formula.compile());
        due(formula, "00000000000000000010000000");
        // x, y, z, t and c are no variables.
        Check.yes("compile()", Check.compile(formula, "V(x,y,t)*c"));
        due(formula, "00000000000000000000000000");
        int[] wrong = {-1, 26, 'a', 'z', Integer.MAX_VALUE, Integer.MIN_VALUE};
        for (int letter : wrong) {
            Check.fails("typeOf(" + letter + ")", IndexOutOfBoundsException.class, () -> formula.typeOf(letter));
            Check.fails("new: typeOf(" + letter + ")", IndexOutOfBoundsException.class,
                () -> new PixelFormula().typeOf(letter));
        }
        Check.end();
    }

    private static void due(PixelFormula formula, String types) {
        for (int letter = 0; letter < 26; letter++) {
            Check.same("typeOf(" + letter + ")", formula.typeOf(letter), types.charAt(letter) - '0');
        }
    }
}
