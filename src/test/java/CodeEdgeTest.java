/** THE CODE at its edges: just 100 instructions and more, and one that is there already (promises 4 to 9). */
public final class CodeEdgeTest {
    private static final String[] ONE_MORE = {
        "b=2;", "b=x;", "b=a+a;", "b=a-a;", "b=a*a;", "b=a/a;", "b=N(a,a);", "b=X(a,a);", "b=S(a,a);",
        "b=A(a);", "b=F(a);", "b=D(a,a);", "b=a+d.y;", "b=-d.z;",
    };

    public static void main(String[] args) {
        just100AndOneMore();
        threeMoreCloseTo100();
        fourToSixMoreCloseTo100();
        thereAlreadyInAFullCode();
        whatNobodyReadsCounts();
        refusedAfterTooMany();
        indexesOfAFullCode();
        valuesOfAFullCode();
        thereAlready();
        notTheSame();
        Check.end();
    }

    private static void sized(String text, int size) {
        PixelFormula formula = new PixelFormula();
        Check.yes("compile() of " + text, Check.compile(formula, text));
        Check.same("size() of " + text, formula.size(), size);
    }

    private static void tooMany(String text) {
        PixelFormula formula = Check.compiled("q=-c;q");
        String before = Check.code(formula) + State.types(formula);
        Check.no("compile() of " + text, Check.compile(formula, text));
        Check.same("code behind " + text, Check.code(formula) + State.types(formula), before);
        Check.same("text behind " + text, formula.type(0), text.length());
        Check.yes("another text behind " + text, Check.compile(formula, "-c"));
        Check.same("its code", Check.code(formula), Check.code(Check.compiled("-c")));
        Check.no("compile() by a new object of " + text, Check.compile(new PixelFormula(), text));
    }

    /** d, the 32nd NEG of c, makes 99 instructions; a is a number that has none of its own. */
    private static String with99() {
        return "a=c.x;d=" + "-".repeat(32) + "c;";
    }

    private static void just100AndOneMore() {
        sized(with99() + "d", 99);
        for (String more : ONE_MORE) {
            sized(with99() + more + "d", 100);
            tooMany(with99() + "e=3;" + more + "d");
            tooMany(with99() + more + "e=3;d");
        }
    }

    /** A row of so many instructions, and then a result that needs three more for c and three for NEG. */
    private static void threeMoreCloseTo100() {
        for (int negs = 90; negs <= 99; negs++) {
            String text = "a=" + "-".repeat(negs) + "x;";
            due(text + "c", negs + 1 + 3);
            due(text + "-c", negs + 1 + 6);
            due(text + "c*a", negs + 1 + 6);
            due(text + "a.xxx", negs + 1);
            due(text + "V(a,y,t)", negs + 1 + 2);
        }
        due("a=" + "-".repeat(100) + "x;a.xxx", 101);
    }

    private static void due(String text, int size) {
        if (size <= 100) {
            sized(text, size);
        } else {
            tooMany(text);
        }
    }

    /** c is there with its 3; NEG of its matrix needs 3 for 4 numbers, times a vector 6, D of three 5. */
    private static void fourToSixMoreCloseTo100() {
        for (int negs = 84; negs <= 96; negs++) {
            String given = "a=" + "-".repeat(negs) + "x;m=M(c.xy,c.zx);";
            int size = negs + 1 + 3;
            due(given + "c", size);
            due(given + "n=-m;c", size + 3);
            due(given + "n=m+a;c", size + 3);
            due(given + "n=m*c.xy;c", size + 6);
            due(given + "n=D(c,c);c", size + 5);
        }
    }

    private static void thereAlreadyInAFullCode() {
        String full = with99() + "b=-d.x;";
        sized(full + "d", 100);
        sized(full + "c", 100);
        sized(full + "b.xxx", 100);
        sized(full + "V(b,a,-a)", 100);
        sized(full + "--" + "-c", 100);
        sized(full + "e=-------c;e", 100);
        sized(full + "e=-d.x;d", 100);
        tooMany(full + "e=-d.y;d");
        tooMany(full + "-d");
        tooMany(full + "c+c");
        tooMany(full + "V(b,a,-b)");
    }

    private static void whatNobodyReadsCounts() {
        sized("a=t;b=y;a=x;c", 6);
        sized("a=1;a=2;a=3;c", 6);
        sized("a=c+c;c", 6);
        sized("c.xxx", 3);
        tooMany("a=" + "-".repeat(97) + "x;c");
    }

    /** A text that is wrong as well as too long, before and behind the place where it becomes too long. */
    private static void refusedAfterTooMany() {
        tooMany("a=" + "-".repeat(100) + "x;c.xy");
        tooMany("a=" + "-".repeat(100) + "x;b");
        tooMany("a=" + "-".repeat(100) + "x;c+");
        tooMany("a=" + "-".repeat(100) + "x;c;");
        tooMany("-".repeat(159) + "c");
        tooMany("a=" + "-".repeat(155) + "x;c");
        tooMany("c" + "+c".repeat(79));
        tooMany("c" + "*2/c".repeat(39));
    }

    private static void indexesOfAFullCode() {
        PixelFormula formula = Check.compiled(with99() + "b=-d.z;V(b,d.yz)");
        Check.same("size()", formula.size(), 100);
        Check.same("instruction(0, 0)", formula.instruction(0, 0), 1);
        Check.same("instruction(0, 1)", formula.instruction(0, 1), 3);
        Check.same("instruction(0, 2)", formula.instruction(0, 2), 0);
        Check.same("instruction(98, 0)", formula.instruction(98, 0), 9);
        Check.same("instruction(98, 1)", formula.instruction(98, 1), 95);
        Check.same("instruction(99, 0)", formula.instruction(99, 0), 9);
        Check.same("instruction(99, 1)", formula.instruction(99, 1), 98);
        Check.same("instruction(99, 2)", formula.instruction(99, 2), 0);
        Check.same("result(0)", formula.result(0), 99);
        Check.same("result(1)", formula.result(1), 97);
        Check.same("result(2)", formula.result(2), 98);
        int[] beyond = {-1, 100, 101, 127, 128, Integer.MAX_VALUE, Integer.MIN_VALUE};
        for (int k : beyond) {
            for (int what = -1; what <= 3; what++) {
                int asked = what;
                String call = "instruction(" + k + ", " + what + ")";
                Check.fails(call, IndexOutOfBoundsException.class, () -> formula.instruction(k, asked));
            }
            Check.fails("value(" + k + ")", IndexOutOfBoundsException.class, () -> formula.value(k, 0, 0, 0, 0));
            Check.fails("value(" + k + ") of no color", IndexOutOfBoundsException.class,
                () -> formula.value(k, 0, 0, 0, 0x1000000));
        }
        int[] wrong = {-1, 3, Integer.MAX_VALUE, Integer.MIN_VALUE};
        for (int i : wrong) {
            Check.fails("instruction(0, " + i + ")", IndexOutOfBoundsException.class, () -> formula.instruction(0, i));
            Check.fails("instruction(99, " + i + ")", IndexOutOfBoundsException.class, () -> formula.instruction(99, i));
            Check.fails("result(" + i + ")", IndexOutOfBoundsException.class, () -> formula.result(i));
        }
        Check.same("result(1) that is the last one", Check.compiled(with99() + "e=7;V(a,e,a)").result(1), 99);
    }

    private static void valuesOfAFullCode() {
        PixelFormula formula = Check.compiled(with99() + "b=-d.z;V(b,d.yz)");
        Check.same("value(0)", formula.value(0, 0, 0, 0, 0xFFFFFF), 65280);
        Check.same("value(2)", formula.value(2, 0, 0, 0, 3), 768);
        Check.same("value(98)", formula.value(98, 0, 0, 0, 3), 768);
        Check.same("value(99)", formula.value(99, 0, 0, 0, 3), -768);
        formula.paint(7, 3, 0x010203);
        formula.run(0);
        Check.same("pixel(7, 3)", formula.pixel(7, 3), 0x000203);
    }

    private static void code(String text, String due) {
        Check.same("code of " + text, Check.code(Check.compiled(text)), due);
    }

    /** One of each kind, twice in the text and once in the code. */
    private static void thereAlready() {
        String xy = "INPUT 0 0; INPUT 1 0; ";
        code("V(1,1.0,0001.0000)", "CONSTANT 65536 0; -> 0 0 0");
        code("V(x,x,x)", "INPUT 0 0; -> 0 0 0");
        code("c+0*c.zyx-c", "INPUT 3 0; INPUT 4 0; INPUT 5 0; CONSTANT 0 0; MUL 3 2; MUL 3 1; MUL 3 0; "
            + "ADD 0 4; ADD 1 5; ADD 2 6; SUB 7 0; SUB 8 1; SUB 9 2; -> 10 11 12");
        String[] signs = {"+", "-", "*", "/"};
        String[] kinds = {"ADD", "SUB", "MUL", "DIV"};
        for (int i = 0; i < 4; i++) {
            String sum = "x" + signs[i] + "y";
            code("V(" + sum + ",(" + sum + ")," + sum + ")", xy + kinds[i] + " 0 1; -> 2 2 2");
        }
        code("V(N(x,y),N(x,y),x)", xy + "MIN 0 1; -> 2 2 0");
        code("V(X(x,y),X(x,y),x)", xy + "MAX 0 1; -> 2 2 0");
        code("V(S(x,y),S(x,y),x)", xy + "STEP 0 1; -> 2 2 0");
        code("V(D(x,y),x*y,x)", xy + "MUL 0 1; -> 2 2 0");
        code("V(-x,-x,-(x))", "INPUT 0 0; NEG 0 0; -> 1 1 1");
        code("V(A(x),A(x),A(x.x))", "INPUT 0 0; ABS 0 0; -> 1 1 1");
        code("V(F(x),F(x),F(x))", "INPUT 0 0; FLOOR 0 0; -> 1 1 1");
        code("-c.xxx", "INPUT 3 0; INPUT 4 0; INPUT 5 0; NEG 0 0; -> 3 3 3");
        code("D(x.xxx,y.xxx).xxx", xy + "MUL 0 1; ADD 2 2; ADD 3 2; -> 4 4 4");
        code("m=M(x.xx,x.xx);V(m*y.xx,0)", xy + "MUL 0 1; ADD 2 2; CONSTANT 0 0; -> 3 3 4");
        code("a=-x;b=-x;V(a,b,--x)", "INPUT 0 0; NEG 0 0; NEG 1 0; -> 1 1 2");
    }

    /** The kind, the first and the second each make a difference. */
    private static void notTheSame() {
        code("V(x+y,y+x,x-y)", "INPUT 0 0; INPUT 1 0; ADD 0 1; ADD 1 0; SUB 0 1; -> 2 3 4");
        code("V(N(x,y),X(x,y),S(x,y))", "INPUT 0 0; INPUT 1 0; MIN 0 1; MAX 0 1; STEP 0 1; -> 2 3 4");
        code("V(x+x,x+y,y+y)", "INPUT 0 0; ADD 0 0; INPUT 1 0; ADD 0 2; ADD 2 2; -> 1 3 4");
        code("V(-x,A(x),F(x))", "INPUT 0 0; NEG 0 0; ABS 0 0; FLOOR 0 0; -> 1 2 3");
        code("V(0,x,0.0001)", "CONSTANT 0 0; INPUT 0 0; CONSTANT 6 0; -> 0 1 2");
        code("V(x*x,x/x,x-x)", "INPUT 0 0; MUL 0 0; DIV 0 0; SUB 0 0; -> 1 2 3");
        // NEG of the first instruction has a 0 as its second, like an ADD of it to itself.
        code("V(x+x,-x,x*x)", "INPUT 0 0; ADD 0 0; NEG 0 0; MUL 0 0; -> 1 2 3");
    }
}
