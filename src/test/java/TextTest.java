/** Promises 2 and 3: type and erase. */
public final class TextTest {
    public static void main(String[] args) {
        bytesComeHighestFirst();
        zeroBytesAreLeftOut();
        wrongCharacters();
        noMoreThan160();
        erased();
        Check.end();
    }

    private static void bytesComeHighestFirst() {
        PixelFormula formula = new PixelFormula();
        Check.same("type(V(x,)", formula.type('V' << 24 | '(' << 16 | 'x' << 8 | ','), 4);
        Check.same("type(y,t))", formula.type('y' << 24 | ',' << 16 | 't' << 8 | ')'), 8);
        Check.yes("compile() of V(x,y,t)", formula.compile());
        Check.same("code", Check.code(formula), "INPUT 0 0; INPUT 1 0; INPUT 2 0; -> 0 1 2");
    }

    private static void zeroBytesAreLeftOut() {
        PixelFormula formula = new PixelFormula();
        Check.same("type(0)", formula.type(0), 0);
        Check.same("type(c at byte 2)", formula.type('c' << 16), 1);
        Check.same("type(.. x . y)", formula.type('.' << 24 | 'x'), 3);
        Check.same("type(y at byte 1)", formula.type('y' << 8), 4);
        Check.same("type(z highest)", formula.type('z' << 24), 5);
        Check.same("type(0) at the end", formula.type(0), 5);
        Check.yes("compile() of c.xyz", formula.compile());
    }

    private static void wrongCharacters() {
        PixelFormula formula = new PixelFormula();
        int[] wrong = {1, 32, 127, 128, 200, 255};
        for (int character : wrong) {
            for (int shift = 0; shift < 32; shift += 8) {
                int word = character << shift;
                int among = 'c' * 0x01010101 & ~(0xFF << shift) | word;
                Check.fails("type(" + word + ")", IllegalArgumentException.class, () -> formula.type(word));
                Check.fails("type(" + among + ")", IllegalArgumentException.class, () -> formula.type(among));
            }
        }
        Check.fails("type(-1)", IllegalArgumentException.class, () -> formula.type(-1));
        Check.same("length behind wrong words", formula.type(0), 0);
        Check.same("type(33)", formula.type(33), 1);
        Check.same("type(126)", formula.type(126), 2);
    }

    private static void noMoreThan160() {
        PixelFormula formula = new PixelFormula();
        int four = '-' * 0x01010101;
        for (int i = 1; i <= 39; i++) {
            Check.same("type(----)", formula.type(four), 4 * i);
        }
        Check.same("type(--)", formula.type('-' << 8 | '-'), 158);
        Check.fails("type of 3 at 158", IllegalStateException.class, () -> formula.type('-' << 16 | '-' << 8 | '-'));
        Check.fails("type of 4 at 158", IllegalStateException.class, () -> formula.type(four));
        Check.same("length behind them", formula.type(0), 158);
        Check.same("type of 2 at 158", formula.type('-' << 24 | '-'), 160);
        Check.same("type(0) at 160", formula.type(0), 160);
        Check.fails("type of 1 at 160", IllegalStateException.class, () -> formula.type('c'));
        Check.fails("type of a wrong one at 160", IllegalArgumentException.class, () -> formula.type(' '));
        Check.fails("type of both wrongs at 160", IllegalArgumentException.class, () -> formula.type('c' << 8 | 127));
        Check.same("length at the end", formula.type(0), 160);
    }

    private static void erased() {
        PixelFormula formula = Check.compiled("a=c;-a");
        String code = Check.code(formula);
        formula.erase();
        Check.same("length behind erase()", formula.type(0), 0);
        Check.same("code behind erase()", Check.code(formula), code);
        Check.same("typeOf(0) behind erase()", formula.typeOf(0), 3);
        Check.no("compile() behind erase()", formula.compile());
        Check.same("code behind that", Check.code(formula), code);
        Check.type(formula, "c");
        Check.yes("compile() of the new text", formula.compile());
        Check.same("size() of the new text", formula.size(), 3);
    }
}
