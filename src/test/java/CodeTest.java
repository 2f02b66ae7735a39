/** Promises 4 to 7: the code of a text, instruction by instruction. */
public final class CodeTest {
    private static final String C = "INPUT 3 0; INPUT 4 0; INPUT 5 0; ";

    public static void main(String[] args) {
        inputsAndConstants();
        operators();
        functions();
        matrices();
        order();
        wrongCalls();
        Check.end();
    }

    private static void due(String text, String code) {
        PixelFormula formula = Check.compiled(text);
        Check.same("code of " + text, Check.code(formula), code);
        Check.same("size() of " + text, formula.size(), code.split(";").length - 1);
    }

    private static void inputsAndConstants() {
        due("c", C + "-> 0 1 2");
        due("c.zxx", C + "-> 2 0 0");
        due("V(t,y,x)", "INPUT 2 0; INPUT 1 0; INPUT 0 0; -> 0 1 2");
        due("V(x,x,x)", "INPUT 0 0; -> 0 0 0");
        due("(1).xxx", "CONSTANT 65536 0; -> 0 0 0");
        due("V(0,1,9999)", "CONSTANT 0 0; CONSTANT 65536 0; CONSTANT 655294464 0; -> 0 1 2");
        // Constants that differ in text but not in their value are the same.
        due("V(0.5,0.50,00.500)", "CONSTANT 32768 0; -> 0 0 0");
        due("V(0.0001,0.9999,9999.9999)", "CONSTANT 6 0; CONSTANT 65529 0; CONSTANT 655359993 0; -> 0 1 2");
        due("V(0.1,12.34,0.00)", "CONSTANT 6553 0; CONSTANT 808714 0; CONSTANT 0 0; -> 0 1 2");
        // A constant is not an input of the same number, nor another kind with the same operands.
        due("V(x,0,-x)", "INPUT 0 0; CONSTANT 0 0; NEG 0 0; -> 0 1 2");
    }

    private static void operators() {
        due("c+c", C + "ADD 0 0; ADD 1 1; ADD 2 2; -> 3 4 5");
        due("c-c.zyx", C + "SUB 0 2; SUB 1 1; SUB 2 0; -> 3 4 5");
        due("c*x", C + "INPUT 0 0; MUL 0 3; MUL 1 3; MUL 2 3; -> 4 5 6");
        due("x/c", "INPUT 0 0; INPUT 3 0; INPUT 4 0; INPUT 5 0; DIV 0 1; DIV 0 2; DIV 0 3; -> 4 5 6");
        due("--c", C + "NEG 0 0; NEG 1 0; NEG 2 0; NEG 3 0; NEG 4 0; NEG 5 0; -> 6 7 8");
        due("-c.xxx", C + "NEG 0 0; -> 3 3 3");
        due("(-c).xxx", C + "NEG 0 0; NEG 1 0; NEG 2 0; -> 3 3 3");
        due("V(x-y-t,x-(y-t),x)",
            "INPUT 0 0; INPUT 1 0; SUB 0 1; INPUT 2 0; SUB 2 3; SUB 1 3; SUB 0 5; -> 4 6 0");
        due("V(x/y/t,x+y*t,x*y+t)",
            "INPUT 0 0; INPUT 1 0; DIV 0 1; INPUT 2 0; DIV 2 3; MUL 1 3; ADD 0 5; MUL 0 1; ADD 7 3; -> 4 6 8");
        due("V(-x*y,x*-y,-(x*y))",
            "INPUT 0 0; NEG 0 0; INPUT 1 0; MUL 1 2; NEG 2 0; MUL 0 4; MUL 0 2; NEG 6 0; -> 3 5 7");
        // The order of the two instructions belongs to the instruction.
        due("V(x+y,y+x,x+y)", "INPUT 0 0; INPUT 1 0; ADD 0 1; ADD 1 0; -> 2 3 2");
    }

    private static void functions() {
        due("A(c)", C + "ABS 0 0; ABS 1 0; ABS 2 0; -> 3 4 5");
        due("F(c)", C + "FLOOR 0 0; FLOOR 1 0; FLOOR 2 0; -> 3 4 5");
        due("N(c,t)", C + "INPUT 2 0; MIN 0 3; MIN 1 3; MIN 2 3; -> 4 5 6");
        due("X(t,c)", "INPUT 2 0; INPUT 3 0; INPUT 4 0; INPUT 5 0; MAX 0 1; MAX 0 2; MAX 0 3; -> 4 5 6");
        due("S(c,c.zyx)", C + "STEP 0 2; STEP 1 1; STEP 2 0; -> 3 4 5");
        due("D(x,y).xxx", "INPUT 0 0; INPUT 1 0; MUL 0 1; -> 2 2 2");
        due("D(c.xy,c.zx).xxx", C + "MUL 0 2; MUL 1 0; ADD 3 4; -> 5 5 5");
        due("D(c,c.yzx).xxx", C + "MUL 0 1; MUL 1 2; ADD 3 4; MUL 2 0; ADD 5 6; -> 7 7 7");
        due("V(c.xy,x)", C + "INPUT 0 0; -> 0 1 3");
        due("V(x,c.zy)", "INPUT 0 0; INPUT 3 0; INPUT 4 0; INPUT 5 0; -> 0 3 2");
        due("V(c)", C + "-> 0 1 2");
    }

    private static void matrices() {
        String four = "INPUT 0 0; INPUT 1 0; INPUT 2 0; INPUT 3 0; INPUT 4 0; INPUT 5 0; ";
        due("m=M(V(x,y),V(t,c.x));V(m*c.yz,1)", four
            + "MUL 0 4; MUL 2 5; ADD 6 7; MUL 1 4; MUL 3 5; ADD 9 10; CONSTANT 65536 0; -> 8 11 12");
        due("m=M(V(x,y),V(t,c.x));n=m*M(c.xy,c.zy);V((n+1)*c.xy,1)", four
            + "MUL 0 3; MUL 2 4; ADD 6 7; MUL 1 3; MUL 3 4; ADD 9 10; "
            + "MUL 0 5; ADD 12 7; MUL 1 5; ADD 14 10; CONSTANT 65536 0; ADD 8 16; ADD 11 16; ADD 13 16; ADD 15 16; "
            + "MUL 17 3; MUL 19 4; ADD 21 22; MUL 18 3; MUL 20 4; ADD 24 25; -> 23 26 16");
        due("m=-M(V(x,y),V(t,c.x));V(m*c.yz,1)", four + "NEG 0 0; NEG 1 0; NEG 2 0; NEG 3 0; "
            + "MUL 6 4; MUL 8 5; ADD 10 11; MUL 7 4; MUL 9 5; ADD 13 14; CONSTANT 65536 0; -> 12 15 16");
    }

    private static void order() {
        // A variable's code stands where its value is given, and is there even if nothing reads it.
        due("a=t;b=y;c", "INPUT 2 0; INPUT 1 0; INPUT 3 0; INPUT 4 0; INPUT 5 0; -> 2 3 4");
        due("a=c.x;a.xxx", C + "-> 0 0 0");
        due("a=x;b=a;a=y;V(a,b,a)", "INPUT 0 0; INPUT 1 0; -> 1 0 1");
        due("a=x+y;a=a*a;V(a,x+y,a)", "INPUT 0 0; INPUT 1 0; ADD 0 1; MUL 2 2; -> 3 2 3");
        due("V(x+1,t*(y-2),1)",
            "INPUT 0 0; CONSTANT 65536 0; ADD 0 1; INPUT 2 0; INPUT 1 0; CONSTANT 131072 0; SUB 4 5; MUL 3 6; -> 2 7 1");
        due("c*0.5+c*0.5", C + "CONSTANT 32768 0; MUL 0 3; MUL 1 3; MUL 2 3; ADD 4 4; ADD 5 5; ADD 6 6; -> 7 8 9");
    }

    private static void wrongCalls() {
        PixelFormula formula = Check.compiled("-c");
        int[] wrongInstructions = {-1, 6, 7, 99, 100, Integer.MAX_VALUE, Integer.MIN_VALUE};
        for (int k : wrongInstructions) {
            Check.fails("instruction(" + k + ", 0)", IndexOutOfBoundsException.class, () -> formula.instruction(k, 0));
        }
        int[] wrong = {-1, 3, Integer.MAX_VALUE, Integer.MIN_VALUE};
        for (int i : wrong) {
            Check.fails("instruction(0, " + i + ")", IndexOutOfBoundsException.class, () -> formula.instruction(0, i));
            Check.fails("result(" + i + ")", IndexOutOfBoundsException.class, () -> formula.result(i));
            Check.fails("new: result(" + i + ")", IllegalStateException.class, () -> new PixelFormula().result(i));
        }
        Check.same("instruction(5, 0)", formula.instruction(5, 0), 9);
        Check.same("instruction(5, 1)", formula.instruction(5, 1), 2);
        Check.same("instruction(5, 2)", formula.instruction(5, 2), 0);
        Check.compile(formula, "(1).xxx");
        Check.fails("instruction(1, 0) of a shorter code", IndexOutOfBoundsException.class, () -> formula.instruction(1, 0));
    }
}
