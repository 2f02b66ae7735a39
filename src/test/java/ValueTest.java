import java.math.BigDecimal;
import java.math.BigInteger;
import java.math.RoundingMode;

/** Promise 9: what an instruction makes; the operations, at their edges. */
public final class ValueTest {
    private static final int MOST = Integer.MAX_VALUE;
    private static final int LEAST = Integer.MIN_VALUE;
    private static final int[] EDGES = {
        LEAST, LEAST + 1, -65536 * 3, -65537, -65536, -65535, -32768, -257, -256, -255, -3, -2, -1, 0, 1, 2, 3,
        255, 256, 257, 32768, 65535, 65536, 65537, 65536 * 3, 46341 * 256, MOST - 65536, MOST - 1, MOST,
    };

    public static void main(String[] args) {
        writtenOut();
        allPairsOfEdges();
        inputs();
        wrongCalls();
        Check.end();
    }

    private static void writtenOut() {
        due("x+y", MOST, 1, MOST);
        due("x+y", LEAST, -1, LEAST);
        due("x-y", LEAST, 1, LEAST);
        due("x-y", 0, LEAST, MOST);
        due("x*y", 1, 1, 0);
        due("x*y", -1, 1, -1);
        due("x*y", 65536, -3, -3);
        due("x*y", LEAST, LEAST, MOST);
        due("x*y", LEAST, MOST, LEAST);
        due("x/y", -1, 131072, 0);
        due("x/y", -3, 131072, -1);
        due("x/y", 3, 131072, 1);
        due("x/y", LEAST, -1, MOST);
        due("x/y", LEAST, -65536, MOST);
        due("x/y", MOST, 1, MOST);
        due("x/y", 1, 0, MOST);
        due("x/y", -1, 0, LEAST);
        due("x/y", 0, 0, 0);
        due("N(x,y)", LEAST, MOST, LEAST);
        due("X(x,y)", LEAST, MOST, MOST);
        due("S(x,y)", 7, 7, 65536);
        due("S(x,y)", 8, 7, 0);
        due("S(x,y)", LEAST, MOST, 65536);
        due("S(x,y)", MOST, LEAST, 0);
        due("-x", LEAST, 0, MOST);
        due("-x", 5, 0, -5);
        due("A(x)", LEAST, 0, MOST);
        due("A(x)", -5, 0, 5);
        due("F(x)", -1, 0, -65536);
        due("F(x)", 65535, 0, 0);
        due("F(x)", LEAST, 0, LEAST);
        due("F(x)", LEAST + 1, 0, LEAST);
        due("F(x)", MOST, 0, 0x7FFF0000);
        // Each step is saturated, not only the last one.
        due("x+y-y", MOST, 65536, MOST - 65536);
        due("D(V(x,x,y),V(1,1,-1))", MOST, 65536, MOST - 65536);
    }

    private static void due(String sum, int x, int y, int want) {
        due(Check.compiled("(" + sum + ").xxx"), sum, x, y, want);
    }

    private static void due(PixelFormula formula, String sum, int x, int y, int want) {
        int got = formula.value(formula.result(0), x, y, 0, 0);
        Check.same(sum + " with x = " + x + " and y = " + y, got, want);
    }

    private static void allPairsOfEdges() {
        String[] sums = {"x+y", "x-y", "x*y", "x/y", "N(x,y)", "X(x,y)", "S(x,y)", "-x", "A(x)", "F(x)"};
        for (int i = 0; i < sums.length; i++) {
            for (int x : EDGES) {
                // A new object for each x keeps all of them far below 512 calls.
                PixelFormula formula = Check.compiled("(" + sums[i] + ").xxx");
                for (int y : EDGES) {
                    due(formula, sums[i], x, y, exact(i, BigInteger.valueOf(x), BigInteger.valueOf(y)));
                }
            }
        }
    }

    private static int exact(int operation, BigInteger a, BigInteger b) {
        BigInteger one = BigInteger.valueOf(65536);
        switch (operation) {
            case 0: return saturated(a.add(b));
            case 1: return saturated(a.subtract(b));
            case 2: return saturated(floored(a.multiply(b), one));
            case 3: return b.signum() == 0 ? new int[] {LEAST, 0, MOST}[a.signum() + 1] : saturated(a.multiply(one).divide(b));
            case 4: return a.min(b).intValue();
            case 5: return a.max(b).intValue();
            case 6: return a.compareTo(b) <= 0 ? 65536 : 0;
            case 7: return saturated(a.negate());
            case 8: return saturated(a.abs());
            default: return floored(a, one).multiply(one).intValueExact();
        }
    }

    private static BigInteger floored(BigInteger a, BigInteger b) {
        return new BigDecimal(a).divide(new BigDecimal(b), 0, RoundingMode.FLOOR).toBigInteger();
    }

    private static int saturated(BigInteger number) {
        return number.max(BigInteger.valueOf(LEAST)).min(BigInteger.valueOf(MOST)).intValueExact();
    }

    private static void inputs() {
        PixelFormula formula = Check.compiled("a=1.5;b=x;b=y;b=t;c");
        formula.paint(0, 0, 0x777777);
        int[] due = {98304, LEAST, MOST, -7, 0xFE00, 0x8000, 0x0100};
        for (int k = 0; k < due.length; k++) {
            Check.same("value(" + k + ", ..)", formula.value(k, LEAST, MOST, -7, 0xFE8001), due[k]);
        }
        Check.same("red of white", formula.value(4, 0, 0, 0, 0xFFFFFF), 65280);
        Check.same("blue of black", formula.value(6, 0, 0, 0, 0), 0);
        Check.same("the picture stays", formula.pixel(0, 0), 0x777777);
        Check.same("instructions in the middle", Check.compiled("-c*2").value(3, 0, 0, 0, 0x010203), -256);
    }

    private static void wrongCalls() {
        PixelFormula formula = Check.compiled("c");
        int[] wrongInstructions = {-1, 3, 100, MOST, LEAST};
        int[] wrongColors = {-1, 0x1000000, MOST, LEAST};
        for (int k : wrongInstructions) {
            Check.fails("value(" + k + ", ..)", IndexOutOfBoundsException.class, () -> formula.value(k, 0, 0, 0, 0));
            Check.fails("value(" + k + ", .., -1)", IndexOutOfBoundsException.class, () -> formula.value(k, 0, 0, 0, -1));
        }
        for (int color : wrongColors) {
            Check.fails("value(2, .., " + color + ")", IllegalArgumentException.class, () -> formula.value(2, 0, 0, 0, color));
            Check.fails("new: value(0, .., " + color + ")", IndexOutOfBoundsException.class,
                () -> new PixelFormula().value(0, 0, 0, 0, color));
        }
    }
}
