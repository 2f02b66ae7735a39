/** Promise 4: which texts are accepted, and what compile() leaves alone. */
public final class GrammarTest {
    private static final String[] ACCEPTED = {
        // programs
        "c", "a=1;c", "a=1;b=a;a=c;a+b", "a=c;a=a.x;V(a,a,a)", "w=M(c.xy,c.yz);V(w*c.xy,1)",
        "b=1;d=1;e=1;f=1;g=1;h=1;i=1;j=1;k=1;l=1;m=1;n=1;o=1;p=1;q=1;r=1;s=1;u=1;v=1;w=1;c*w",
        // sums, products, units
        "c+c-c", "c*c/c", "c+x*t-c/y", "--c", "c--c", "c*-c", "c+-c", "c/--c", "-(-c)", "---------c",
        // constants
        "1*c", "0001*c", "9999*c", "9999.9999*c", "0.0001*c", "1.5*c", "0.5+c", "00.50*c",
        // dots
        "c.xyz", "c.zzz", "c.x*c", "x.xxx", "(1).xxx", "-c.xxx", "(c.xy).yxx", "V(x,y).xxy", "V(c).zyx", "A(c).zyx",
        "D(c,c).xxx", "a=x;a.xxx",
        // brackets
        "(c)", "(((((c)))))", "A(A(A(A(A(c)))))", "((((A(c)))))", "(((((c)))))+(((((c)))))", "V((((x))),y,t)",
        "((((V(x,y,t)))))", "-(-(-(-(-(c)))))",
        // types of operators
        "c+1", "1+c", "c-1", "1-c", "c*2", "2*c", "c/2", "2/c", "V(c.xy+c.yz,1)", "V(c.xy/c.yz,1)", "V(c.xy*c.yz,1)",
        "m=M(c.xy,c.xy);V((m+m)*c.xy,1)", "m=M(c.xy,c.xy);V((m-1)*c.xy,1)", "m=M(c.xy,c.xy);V((1-m)*c.xy,1)",
        "m=M(c.xy,c.xy);V((m*2)*c.xy,1)", "m=M(c.xy,c.xy);V((2*m)*c.xy,1)", "m=M(c.xy,c.xy);V((m/2)*c.xy,1)",
        "m=M(c.xy,c.xy);V(m*m*c.xy,1)", "m=M(c.xy,c.xy);V(-m*c.xy,1)",
        // functions
        "A(c)", "F(c)", "N(c,c)", "N(c,1)", "N(1,c)", "X(c,c)", "X(x,c)", "S(c,c)", "S(1,c)", "S(c,t)",
        "D(x,y)*c", "D(c.xy,c.yz)*c", "D(c,c)*c", "V(c)", "V(x,c.xy)", "V(c.xy,x)", "V(V(x,y),1)", "V(V(c.xy),1)",
        "V(V(c))", "m=M(c.xy,c.xy);V(A(m)*c.xy,1)", "m=M(c.xy,c.xy);V(F(m)*c.xy,1)", "m=M(c.xy,c.xy);V(N(m,m)*c.xy,1)",
        "m=M(c.xy,c.xy);V(X(m,1)*c.xy,1)", "m=M(c.xy,c.xy);V(S(1,m)*c.xy,1)", "V(-x+1,y*2,-(t))",
    };

    private static final String[] REFUSED = {
        // programs
        "", ";", "c;", ";c", "a=c", "a=c;", "a=;c", "=c;c", "a==c;c", "a=c,c", "a=c;;c", "ab=c;c", "a=b=c;c", "c=c;c",
        "x=1;c", "y=1;c", "z=1;c", "t=1;c", "A=1;c", "1=1;c", "(a=1;c)", "(a)=1;c", "a=1:c", "cc", "c_c",
        "a=1;", "a=1", "a=c;b", "b;b=c", "b=b;c", "a+c;a=1", "a=b;b=1;c", "b+c", "z", "z*c", "a=z;c", "c=1;a",
        // a program of another type
        "x", "1", "c.xy", "V(x,y)", "M(c.xy,c.xy)", "D(c,c)", "a=c;a.x",
        // sums, products, units
        "c+", "+c", "c*", "*c", "c/", "/c", "-", "--", "c-", "c**c", "c++c", "c*/c", "c-+c", "c//c", "c%c", "c^c",
        "c=c", "c'", "!c", "~c", "c\"", "{c}", "[c]",
        // constants
        "12345*c", "1.23456*c", "1.*c", ".5*c", ".", "1.x*c", "1.5.x*c", "1.xxx", "1.5.xxx", "-1.xxx", "1..5*c",
        "1.5.5*c", "1c", "c1", "1x*c", "1(c)", "0x1*c", "1e3*c", "1,5*c", "99999*c", "00001*c",
        // dots
        "c.", "c.w", "c.X", "c.xyzx", "c.xyz.xyz", "c.x.x*c", ".x*c", "c..x*c", "x.y*c", "x.z*c", "t.xxy", "(1).yyy",
        "V(x,y).xyz", "c.xy.xyx", "(c.xy).xyz", "M(c.xy,c.xy).xxx", "m=M(c.xy,c.xy);m.x*c", "c.1", "c.(x)", "c.-x*c",
        "c.x,y", "D(c,c).y*c", "c.xyt", "a=c.xyzx;c", "V(c.xyzx*c.xy,1)", "a=x.xxxx;c",
        // brackets
        "(", ")", "()", "(c", "c)", "(c))", "((c)", "((((((c))))))", "A(A(A(A(A(A(c))))))", "(((((A(c))))))",
        "(((((V(x,y,t))))))", "V(((((x)))),y,((((((t))))))", "(c)(c)", "c(c)", "x(c)", "(c,c)", "c(", "(c;c)",
        // types of operators
        "c+c.xy", "c.xy+c", "c-c.xy", "c*c.xy", "c/c.xy", "c.xy/c", "M(c.xy,c.xy)*c", "c*M(c.xy,c.xy)",
        "m=M(c.xy,c.xy);V(m+c.xy,1)", "m=M(c.xy,c.xy);V(c.xy+m,1)", "m=M(c.xy,c.xy);V(c.xy*m,1)", "a=M(c.xy,c.xy)+c;c",
        "a=1/M(c.xy,c.xy);c", "m=M(c.xy,c.xy);a=m/m;c", "m=M(c.xy,c.xy);a=c.xy/m;c", "m=M(c.xy,c.xy);a=m/c.xy;c",
        "m=M(c.xy,c.xy);a=m-c.xy;c", "m=M(c.xy,c.xy);a=c/m;c",
        // functions
        "A", "A(", "A()", "A(c", "A(c,c)", "A(c,)", "Ac", "A.x", "F()", "F(c,c)", "B(c)", "a(c)", "N(c)", "N(c,c,c)",
        "N(,c)", "N(c,)", "N()", "X(c)", "X(c,c.xy)", "X(1,c,1)", "S(c)", "S(c.xy,c)", "S(c;c)", "S(c,c,c)", "N(c.xy,c)",
        "D(c)*c", "D(c,c,c)*c", "D(c,x)*c", "D(x,c)*c", "D(c.xy,c)*c", "a=M(c.xy,c.xy);D(a,a)*c", "a=M(c.xy,c.xy);D(a,1)*c",
        "V()", "V(x)", "V(x,y,t,x)", "V(c,x)", "V(x,c)", "V(c.xy,c.xy)", "V(c,c)", "V(M(c.xy,c.xy))", "V(x,y,)", "V(,x,y)",
        "V(x)+c", "V(x;y)", "V(c,)", "V(x,M(c.xy,c.xy))", "V(M(c.xy,c.xy),1)", "VV(c)", "V((c)", "(V(c)",
        "a=M(c.xy);c", "a=M(c,c);c", "a=M(x,y);c", "a=M(c.xy,x);c", "a=M(c.xy,c);c", "a=M(c.xy,c.xy,c.xy);c",
        "a=M(1,c.xy);c", "a=M(M(c.xy,c.xy),c.xy);c", "E(c)", "G(c)", "Z(c,c)", "W(c,c)", "Y(c)",
    };

    public static void main(String[] args) {
        for (String text : ACCEPTED) {
            PixelFormula formula = new PixelFormula();
            Check.yes("compile() of " + text, Check.compile(formula, text));
            Check.same("the text stays: " + text, formula.type(0), text.length());
            Check.yes("compile() again of " + text, formula.compile());
        }
        for (String text : REFUSED) {
            refused(text);
        }
        wholeLength();
        atMost100Instructions();
        Check.end();
    }

    /** A refused text changes nothing, and can still be made a right one. */
    private static void refused(String text) {
        PixelFormula formula = Check.compiled("q=-c;V(M(q.xy,c.zx)*c.xy,1)*q");
        check(formula, text);
        check(Check.compiled("q=c.xy;V(q,x)"), text);
        PixelFormula fresh = new PixelFormula();
        Check.no("compile() of " + text, Check.compile(fresh, text));
        Check.same("size() behind " + text, fresh.size(), 0);
    }

    private static void check(PixelFormula formula, String text) {
        String code = Check.code(formula);
        int type = formula.typeOf('q' - 'a');
        Check.no("compile() of " + text, Check.compile(formula, text));
        Check.same("code behind " + text, Check.code(formula), code);
        for (int letter = 0; letter < 26; letter++) {
            Check.same("typeOf(" + letter + ") behind " + text, formula.typeOf(letter), letter == 16 ? type : 0);
        }
        Check.same("the text stays: " + text, formula.type(0), text.length());
    }

    private static void wholeLength() {
        PixelFormula full = new PixelFormula();
        Check.yes("160 characters", Check.compile(full, "a=1;".repeat(39) + "a+-c"));
        Check.same("its length", full.type(0), 160);
        String[] refused = {
            "a=1;".repeat(39) + "c+aa", "c" + "+c".repeat(79), "(".repeat(160), "-".repeat(160), "-".repeat(159) + "c",
            "A(".repeat(80), "a=1;".repeat(40), "V(".repeat(53), "1".repeat(160), "c.".repeat(80), "c,".repeat(80),
        };
        for (String text : refused) {
            Check.no("compile() of " + text, Check.compile(new PixelFormula(), text));
        }
    }

    private static void atMost100Instructions() {
        // Three inputs and 32 times three are 99.
        String many = "-".repeat(32) + "c";
        sized(many, 99);
        sized("a=1;" + many, 100);
        sized("a=1;a=1.0;b=" + many + ";" + many, 100);
        tooLong("a=1;b=2;" + many);
        tooLong("-" + many);
        tooLong("a=1;b=" + many + ";b+a");
    }

    private static void sized(String text, int size) {
        PixelFormula formula = new PixelFormula();
        Check.yes("compile() of " + text, Check.compile(formula, text));
        Check.same("size() of " + text, formula.size(), size);
        Check.same("last kind of " + text, formula.instruction(size - 1, 0), 9);
        Check.same("result(2) of " + text, formula.result(2), size - 1);
        Check.yes("compile() of a short text", Check.compile(formula, "c"));
        Check.same("size() of a short text", formula.size(), 3);
    }

    private static void tooLong(String text) {
        PixelFormula formula = Check.compiled("-c");
        Check.no("compile() of " + text, Check.compile(formula, text));
        Check.same("size() behind " + text, formula.size(), 6);
        Check.same("result(2) behind " + text, formula.result(2), 5);
        Check.yes("a text with room behind " + text, Check.compile(formula, "--c"));
        Check.same("its size()", formula.size(), 9);
    }
}
