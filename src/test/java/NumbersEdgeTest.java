/** The term NUMBERS, sentence by sentence: where an operation saturates, rounds, or has no answer of its own. */
public final class NumbersEdgeTest {
    private static final int ONE = 65536;
    private static final int MOST = Integer.MAX_VALUE;
    private static final int LEAST = Integer.MIN_VALUE;

    public static void main(String[] args) {
        addSaturates();
        subSaturates();
        mulSaturates();
        mulRoundsDown();
        negAndAbsSaturate();
        divSaturates();
        divCutsOffTowardsZero();
        divByZero();
        minAndMax();
        stepWhereBothAreTheSame();
        floorBelowZero();
        everyStepSaturates();
        Check.end();
    }

    private static void due(String sum, int x, int y, int want) {
        PixelFormula formula = Check.compiled("(" + sum + ").xxx");
        String what = sum + " with x = " + x + " and y = " + y;
        Check.same(what, formula.value(formula.result(0), x, y, 0, 0), want);
    }

    private static void addSaturates() {
        due("x+y", MOST - 1, 1, MOST);
        due("x+y", MOST, 0, MOST);
        due("x+y", MOST, 1, MOST);
        due("x+y", MOST, MOST, MOST);
        due("x+y", LEAST + 1, -1, LEAST);
        due("x+y", LEAST, 0, LEAST);
        due("x+y", LEAST, -1, LEAST);
        due("x+y", LEAST, LEAST, LEAST);
        due("x+y", MOST, LEAST, -1);
    }

    private static void subSaturates() {
        due("x-y", MOST - 1, -1, MOST);
        due("x-y", MOST, -1, MOST);
        due("x-y", -1, LEAST, MOST);
        due("x-y", 0, LEAST, MOST);
        due("x-y", MOST, LEAST, MOST);
        due("x-y", LEAST + 1, 1, LEAST);
        due("x-y", LEAST, 1, LEAST);
        due("x-y", -1, MOST, LEAST);
        due("x-y", -2, MOST, LEAST);
        due("x-y", LEAST, MOST, LEAST);
        due("x-y", LEAST, LEAST, 0);
        due("x-y", 0, MOST, -MOST);
    }

    private static void mulSaturates() {
        due("x*y", MOST, ONE, MOST);
        due("x*y", LEAST, ONE, LEAST);
        due("x*y", LEAST, -ONE, MOST);
        due("x*y", MOST, -ONE, -MOST);
        due("x*y", MOST, ONE + 1, MOST);
        due("x*y", LEAST, ONE + 1, LEAST);
        due("x*y", MOST, MOST, MOST);
        due("x*y", LEAST, LEAST, MOST);
        due("x*y", LEAST, MOST, LEAST);
        due("x*y", MOST, LEAST, LEAST);
        // 2 to the 23rd and 24th make 2 to the 31st, which is 1 too much, or just the least.
        due("x*y", 1 << 23, 1 << 24, MOST);
        due("x*y", -(1 << 23), 1 << 24, LEAST);
        due("x*y", (1 << 23) - 1, 1 << 24, MOST - 255);
    }

    private static void mulRoundsDown() {
        due("x*y", 1, 1, 0);
        due("x*y", ONE - 1, 1, 0);
        due("x*y", ONE + 1, 1, 1);
        due("x*y", -1, 1, -1);
        due("x*y", 1, -1, -1);
        due("x*y", -1, -1, 0);
        due("x*y", -ONE, 1, -1);
        due("x*y", -ONE - 1, 1, -2);
        due("x*y", -3, ONE / 2, -2);
        due("x*y", 3, ONE / 2, 1);
        due("x*y", 0, LEAST, 0);
    }

    private static void negAndAbsSaturate() {
        due("-x", LEAST, 0, MOST);
        due("-x", LEAST + 1, 0, MOST);
        due("-x", MOST, 0, LEAST + 1);
        due("-x", 0, 0, 0);
        due("--x", LEAST, 0, -MOST);
        due("A(x)", LEAST, 0, MOST);
        due("A(x)", LEAST + 1, 0, MOST);
        due("A(x)", MOST, 0, MOST);
        due("A(x)", -1, 0, 1);
        due("A(x)", 0, 0, 0);
        due("A(x)", 1, 0, 1);
    }

    private static void divSaturates() {
        due("x/y", MOST, ONE, MOST);
        due("x/y", LEAST, ONE, LEAST);
        due("x/y", LEAST, -ONE, MOST);
        due("x/y", MOST, -ONE, -MOST);
        due("x/y", MOST, ONE - 1, MOST);
        due("x/y", LEAST, ONE - 1, LEAST);
        due("x/y", MOST, 1, MOST);
        due("x/y", MOST, -1, LEAST);
        due("x/y", LEAST, 1, LEAST);
        due("x/y", LEAST, -1, MOST);
        // 32768 times 65536 is 2 to the 31st.
        due("x/y", 32768, 1, MOST);
        due("x/y", 32767, 1, MOST - 65535);
        due("x/y", -32768, 1, LEAST);
        due("x/y", 32768, -1, LEAST);
        due("x/y", -32768, -1, MOST);
        due("x/y", -32769, 1, LEAST);
    }

    private static void divCutsOffTowardsZero() {
        due("x/y", 1, 2 * ONE, 0);
        due("x/y", -1, 2 * ONE, 0);
        due("x/y", 1, -2 * ONE, 0);
        due("x/y", -1, -2 * ONE, 0);
        due("x/y", 3, 2 * ONE, 1);
        due("x/y", -3, 2 * ONE, -1);
        due("x/y", 3, -2 * ONE, -1);
        due("x/y", -3, -2 * ONE, 1);
        due("x/y", ONE, 3, 1431655765);
        due("x/y", -ONE, 3, -1431655765);
        due("x/y", 1, MOST, 0);
        due("x/y", -1, MOST, 0);
        due("x/y", 1, LEAST, 0);
        due("x/y", LEAST, LEAST, ONE);
        due("x/y", LEAST, MOST, -ONE);
        due("x/y", MOST, LEAST, -ONE + 1);
    }

    private static void divByZero() {
        due("x/y", 1, 0, MOST);
        due("x/y", MOST, 0, MOST);
        due("x/y", -1, 0, LEAST);
        due("x/y", LEAST, 0, LEAST);
        due("x/y", 0, 0, 0);
        due("x/0", 5, 0, MOST);
        due("0/0", 0, 0, 0);
        due("0/y", 0, LEAST, 0);
    }

    private static void minAndMax() {
        due("N(x,y)", LEAST, MOST, LEAST);
        due("N(x,y)", MOST, LEAST, LEAST);
        due("N(x,y)", MOST, MOST, MOST);
        due("N(x,y)", -1, 0, -1);
        due("X(x,y)", LEAST, MOST, MOST);
        due("X(x,y)", MOST, LEAST, MOST);
        due("X(x,y)", LEAST, LEAST, LEAST);
        due("X(x,y)", -1, 0, 0);
    }

    private static void stepWhereBothAreTheSame() {
        due("S(x,y)", 0, 0, ONE);
        due("S(x,y)", MOST, MOST, ONE);
        due("S(x,y)", LEAST, LEAST, ONE);
        due("S(x,x)", -7, 0, ONE);
        due("S(x,y)", 1, 0, 0);
        due("S(x,y)", 0, 1, ONE);
        due("S(x,y)", -1, 0, ONE);
        due("S(x,y)", 0, -1, 0);
        due("S(x,y)", LEAST, MOST, ONE);
        due("S(x,y)", MOST, LEAST, 0);
    }

    private static void floorBelowZero() {
        due("F(x)", 0, 0, 0);
        due("F(x)", 1, 0, 0);
        due("F(x)", ONE - 1, 0, 0);
        due("F(x)", ONE, 0, ONE);
        due("F(x)", MOST, 0, MOST - ONE + 1);
        due("F(x)", -1, 0, -ONE);
        due("F(x)", -ONE + 1, 0, -ONE);
        due("F(x)", -ONE, 0, -ONE);
        due("F(x)", -ONE - 1, 0, -2 * ONE);
        due("F(x)", LEAST, 0, LEAST);
        due("F(x)", LEAST + 1, 0, LEAST);
        due("F(x)", LEAST + ONE - 1, 0, LEAST);
        due("F(x)", LEAST + ONE, 0, LEAST + ONE);
    }

    private static void everyStepSaturates() {
        due("x+y-y", MOST, ONE, MOST - ONE);
        due("x-y+y", LEAST, ONE, LEAST + ONE);
        due("x*y/y", MOST, 2 * ONE, MOST / 2);
        due("D(V(x,x,y),V(1,1,0-1))", MOST, ONE, MOST - ONE);
        due("(M(V(x,0),V(x,0))*V(1,1)).x-x", MOST, 0, 0);
    }
}
