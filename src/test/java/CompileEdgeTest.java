/** Promises 3, 4 and 8: what stays when a text is erased, refused, or compiled again. */
public final class CompileEdgeTest {
    private static final String[] REFUSED = {
        "", "c.xy", "b", "c+", "a=1;b=2;", "a=c.xy;d=M(a,a);d", "a=1;x=a;c", "((((((c))))))", "a=M(c.xy,c.xy);e=a;c+a",
        "a=" + "-".repeat(110) + "y;c", "-".repeat(160), "1.x", "V(x,y,t,x)",
    };

    public static void main(String[] args) {
        refusedBehindAccepted();
        refusedBeforeAccepted();
        acceptedBehindAccepted();
        textStays();
        typesOfAllLetters();
        Check.end();
    }

    private static void refusedBehindAccepted() {
        String text = "b=-c;a=b.xy;V(D(a,a),a)";
        String code = Check.code(Check.compiled(text));
        for (String wrong : REFUSED) {
            PixelFormula formula = Check.compiled(text);
            formula.paint(2, 1, 0x102030);
            String before = State.of(formula).replaceFirst("length \\d+", "");
            Check.no("compile() of " + wrong, Check.compile(formula, wrong));
            Check.same("state behind " + wrong, State.of(formula).replaceFirst("length \\d+", ""), before);
            Check.same("length behind " + wrong, formula.type(0), wrong.length());
            Check.no("compile() again of " + wrong, formula.compile());
            Check.same("value(3) behind " + wrong, formula.value(3, 0, 0, 0, 0x030000), -768);
            formula.run(0);
            // Red is the sum of two squares, cut off; the negative numbers become 0.
            Check.same("pixel(2, 1) behind " + wrong, formula.pixel(2, 1), 0x050000);
            Check.yes("compile() of the first text again", Check.compile(formula, text));
            Check.same("its code", Check.code(formula), code);
        }
    }

    private static void refusedBeforeAccepted() {
        for (String wrong : REFUSED) {
            PixelFormula formula = new PixelFormula();
            Check.no("compile() of " + wrong, Check.compile(formula, wrong));
            Check.same("size() behind " + wrong, formula.size(), 0);
            Check.same("types behind " + wrong, State.types(formula), "0".repeat(26));
            Check.fails("result(0) behind " + wrong, IllegalStateException.class, () -> formula.result(0));
            Check.yes("compile() of f=t;c", Check.compile(formula, "f=t;c"));
            Check.same("code", Check.code(formula), "INPUT 2 0; INPUT 3 0; INPUT 4 0; INPUT 5 0; -> 1 2 3");
            Check.same("types", State.types(formula), "00000100000000000000000000");
        }
    }

    /** Nothing of a longer code, and no variable of it, comes back in a shorter one. */
    private static void acceptedBehindAccepted() {
        String[] texts = {"a=c;b=M(a.xy,a.yz);V(b*a.xy,1)", "c", "d=1;d*c", "x.xxx", "a=t;V(a,a*a,-a)", "(1).xxx"};
        PixelFormula formula = new PixelFormula();
        for (int turn = 0; turn < 2; turn++) {
            for (String text : texts) {
                Check.yes("compile() of " + text, Check.compile(formula, text));
                PixelFormula alone = Check.compiled(text);
                Check.same("code of " + text, Check.code(formula), Check.code(alone));
            }
        }
        Check.same("types", State.types(formula), "0".repeat(26));
        Check.yes("compile() of a=c;c", Check.compile(formula, "a=c;c"));
        Check.same("types", State.types(formula), "3" + "0".repeat(25));
        Check.yes("compile() of b=1;c", Check.compile(formula, "b=1;c"));
        Check.same("types", State.types(formula), "01" + "0".repeat(24));
    }

    private static void textStays() {
        PixelFormula formula = Check.compiled("c");
        Check.same("length behind an accepted text", formula.type(0), 1);
        Check.yes("compile() again", formula.compile());
        Check.same("type(+)", formula.type('+'), 2);
        Check.no("compile() of c+", formula.compile());
        Check.same("length behind a refused text", formula.type(0), 2);
        Check.same("size() behind it", formula.size(), 3);
        Check.same("type(x)", formula.type('x'), 3);
        Check.yes("compile() of c+x", formula.compile());
        Check.same("size() of c+x", formula.size(), 7);
        formula.erase();
        Check.same("size() behind erase()", formula.size(), 7);
        Check.no("compile() of no text", formula.compile());
        Check.same("size() behind that", formula.size(), 7);
        Check.same("result(2) behind that", formula.result(2), 6);
        formula.run(0);
        Check.same("pixel(1, 0)", formula.pixel(1, 0), 0xFFFFFF);
    }

    private static void typesOfAllLetters() {
        PixelFormula formula = Check.compiled("a=x;b=c.xy;d=c;e=M(b,b);s=e;u=d;v=b;w=a;c");
        Check.same("types", State.types(formula), "12034000000000000040321000");
        int[] none = {-1, 26, Integer.MIN_VALUE, Integer.MAX_VALUE};
        for (int letter : none) {
            Check.fails("typeOf(" + letter + ")", IndexOutOfBoundsException.class, () -> formula.typeOf(letter));
        }
        // The type behind the text is that of the value given last.
        Check.yes("compile()", Check.compile(formula, "a=1;a=c.xy;b=a;a=M(a,b);a=c;a"));
        Check.same("types", State.types(formula), "32" + "0".repeat(24));
        // x, y, z, t and c are read, but are no variables.
        Check.yes("compile()", Check.compile(formula, "V(x,y,t)*c.xyz"));
        Check.same("types", State.types(formula), "0".repeat(26));
    }
}
