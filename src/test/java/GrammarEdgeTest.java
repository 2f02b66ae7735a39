/** The sentences under ACCEPTED that name an edge: empty texts, digits, variables, brackets. */
public final class GrammarEdgeTest {
    private static final String VARIABLES = "abdefghijklmnopqrsuvw";
    private static final String NO_VARIABLES = "xyztc";

    public static void main(String[] args) {
        emptyText();
        programsWithoutAnEnd();
        digits();
        valuesOfConstants();
        variablesBeforeTheyAreGiven();
        variablesThatAreGiven();
        lettersThatCanNotBeGiven();
        fiveBracketsOpen();
        bracketsThatDoNotFit();
        wrongPiecesInEachPlace();
        anyCharacterInsteadOfAPart();
        wholeLength();
        Check.end();
    }

    private static void due(String text, boolean isAccepted) {
        Check.same("compile() of " + text, Check.compile(new PixelFormula(), text) ? 1 : 0, isAccepted ? 1 : 0);
    }

    private static void accepted(String text) {
        Check.yes("compile() of " + text, Check.compile(new PixelFormula(), text));
    }

    /** A text is refused by a new object, and by one that has code, whose code stays. */
    private static void refused(String text) {
        Check.no("compile() of " + text, Check.compile(new PixelFormula(), text));
        PixelFormula formula = Check.compiled("q=-c;q*t");
        String before = Check.code(formula) + State.types(formula);
        Check.no("compile() again of " + text, Check.compile(formula, text));
        Check.same("code behind " + text, Check.code(formula) + State.types(formula), before);
    }

    private static void emptyText() {
        refused("");
        PixelFormula formula = Check.compiled("c");
        formula.erase();
        Check.no("compile() of an erased text", formula.compile());
        Check.same("size() behind it", formula.size(), 3);
    }

    private static void programsWithoutAnEnd() {
        accepted("a=c;c");
        refused("a=c;");
        refused("a=c");
        refused("a=;c");
        refused("a=");
        refused("a");
        refused("=c;c");
        refused(";c");
        refused("c;");
        refused("c;c");
        refused("a=c;;c");
        refused("a=c;b=a;");
        refused("(a=c;c)");
    }

    /** One to four digits, perhaps a dot and one to four more. */
    private static void digits() {
        for (int whole = 0; whole <= 6; whole++) {
            for (int more = -1; more <= 6; more++) {
                String constant = "1".repeat(whole) + (more < 0 ? "" : "." + "1".repeat(more));
                boolean fits = whole >= 1 && whole <= 4 && (more < 0 || more >= 1 && more <= 4);
                String[] texts = {constant + "*c", "c*" + constant, "(" + constant + ").xxx", "a=" + constant + ";c"};
                for (String text : texts) {
                    due(text, fits);
                }
            }
        }
    }

    /** The value times 65536, rounded down: each one of four digits behind the dot, and the greatest. */
    private static void valuesOfConstants() {
        for (int i = 0; i < 10000; i++) {
            String digits = String.valueOf(10000 + i).substring(1);
            value("0." + digits, (int) (i * 65536L / 10000));
            if (i % 97 == 0 || i == 9999) {
                value(digits, i * 65536);
                value(digits + "." + digits, (int) (i * 65536L + i * 65536L / 10000));
            }
        }
        for (int i = 0; i < 1000; i++) {
            value("7." + String.valueOf(1000 + i).substring(1), 7 * 65536 + i * 65536 / 1000);
        }
        for (int i = 0; i < 100; i++) {
            value("07." + String.valueOf(100 + i).substring(1), 7 * 65536 + i * 65536 / 100);
        }
        for (int i = 0; i < 10; i++) {
            value(i + "." + i, i * 65536 + i * 65536 / 10);
        }
        value("0", 0);
        value("0000.0000", 0);
        value("0.0001", 6);
        value("0.9999", 65529);
        value("9999", 655294464);
        value("9999.9999", 655359993);
        Check.same("code of V(0.0001,0.9999,9999.9999)", Check.code(Check.compiled("V(0.0001,0.9999,9999.9999)")),
            "CONSTANT 6 0; CONSTANT 65529 0; CONSTANT 655359993 0; -> 0 1 2");
    }

    private static void value(String constant, int due) {
        PixelFormula formula = Check.compiled("(" + constant + ").xxx");
        Check.same("size() of " + constant, formula.size(), 1);
        Check.same("kind of " + constant, formula.instruction(0, 0), 0);
        Check.same("value of " + constant, formula.instruction(0, 1), due);
        Check.same("second of " + constant, formula.instruction(0, 2), 0);
        Check.same("number of " + constant, formula.value(0, 1, 2, 3, 4), due);
    }

    private static void variablesBeforeTheyAreGiven() {
        for (char letter : VARIABLES.toCharArray()) {
            refused(letter + "*c");
            refused(letter + "=" + letter + ";c");
            refused(letter + "=" + letter + "+1;c");
            refused((letter == 'a' ? 'b' : 'a') + "=" + letter + ";" + letter + "=1;c");
        }
        // What an earlier text gave is gone.
        PixelFormula formula = Check.compiled("a=c;a");
        Check.no("compile() of a*c behind a=c;a", Check.compile(formula, "a*c"));
        Check.no("compile() of a refused a=c;", Check.compile(formula, "a=c;b"));
        Check.no("compile() of a behind it", Check.compile(formula, "a"));
        refused("z");
        refused("z*c");
        refused("c.x*z");
    }

    private static void variablesThatAreGiven() {
        for (char letter : VARIABLES.toCharArray()) {
            accepted(letter + "=c;" + letter);
            accepted(letter + "=1;" + letter + "*c");
            accepted(letter + "=1;" + letter + "=" + letter + "+c;" + letter);
            PixelFormula formula = Check.compiled(letter + "=c.xy;c");
            Check.same("typeOf(" + letter + ")", formula.typeOf(letter - 'a'), 2);
        }
        // The one that came last counts.
        accepted("a=1;a=c;a");
        refused("a=c;a=1;a");
        accepted("a=1;b=a;a=c;b*a");
        refused("a=1;b=a;a=c;b");
    }

    private static void lettersThatCanNotBeGiven() {
        for (char letter : NO_VARIABLES.toCharArray()) {
            refused(letter + "=1;c");
            refused(letter + "=c;c");
            refused("a=1;" + letter + "=a;c");
            refused(letter + "=" + letter + ";c");
            refused(letter + "=;c");
            refused(letter + "=c");
            refused("a=1;" + letter + "=c");
            refused("a=1;" + letter + "=a*c");
        }
        for (char letter = 'A'; letter <= 'Z'; letter++) {
            refused(letter + "=1;c");
        }
        refused("1=1;c");
        refused("c.x=1;c");
        refused("(a)=1;c");
    }

    private static void fiveBracketsOpen() {
        String[] brackets = {"(", "A(", "F(", "-(", "--A("};
        for (String bracket : brackets) {
            accepted(nested(bracket, 5, "c"));
            refused(nested(bracket, 6, "c"));
            accepted("a=" + nested(bracket, 5, "1") + ";c");
            refused("a=" + nested(bracket, 6, "1") + ";c");
            // Only those that are open count.
            accepted(nested(bracket, 5, "c") + "+" + nested(bracket, 5, "c"));
            refused(nested(bracket, 5, "c") + "+" + nested(bracket, 6, "c"));
            accepted("a=" + nested(bracket, 5, "1") + ";" + nested(bracket, 5, "c"));
            accepted(nested(bracket, 5, "c*(x)").replace("(x)", "x"));
            refused(nested(bracket, 5, "c*(x)"));
            accepted(nested(bracket, 4, "(c)*(x)"));
        }
        String[] ofTwo = {"N", "X", "S"};
        for (String name : ofTwo) {
            accepted(nested("(", 4, name + "(c,c)"));
            refused(nested("(", 5, name + "(c,c)"));
            accepted(name + "(" + nested("(", 4, "c") + "," + nested("(", 4, "c") + ")");
            refused(name + "(" + nested("(", 5, "c") + ",c)");
            refused(name + "(c," + nested("(", 5, "c") + ")");
        }
        accepted(nested("(", 4, "V(x,y,t)"));
        refused(nested("(", 5, "V(x,y,t)"));
        accepted("V(x,y," + nested("(", 4, "t") + ")");
        refused("V(x,y," + nested("(", 5, "t") + ")");
        accepted("D(c," + nested("(", 4, "c") + ")*c");
        refused("D(c," + nested("(", 5, "c") + ")*c");
        accepted("a=M(c.xy," + nested("(", 4, "c.xy") + ");c");
        refused("a=M(c.xy," + nested("(", 5, "c.xy") + ");c");
    }

    private static String nested(String bracket, int times, String inside) {
        return bracket.repeat(times) + inside + ")".repeat(times);
    }

    private static void bracketsThatDoNotFit() {
        for (int open = 0; open <= 7; open++) {
            for (int closed = 0; closed <= 7; closed++) {
                String text = "(".repeat(open) + "c" + ")".repeat(closed);
                boolean fits = open == closed && open <= 5;
                due(text, fits);
            }
        }
        refused("()");
        refused("()c");
        refused("c()");
        refused("(c)(c)");
        refused(")c(");
        refused("a=(1;)c");
        refused("(c,c)");
    }

    /** What is no sum stays none in any place of a larger one, also where a number goes with all types. */
    private static void wrongPiecesInEachPlace() {
        String[] places = {
            "#*c", "c*#", "c*x*#", "c*(x+#)", "c*(#+x)", "c*(x-#)", "c/(x/#)", "c*(#/x)", "c*N(x,#)", "c*X(#,x)", "c*S(x,#)",
            "c*A(#)", "c*F(#)", "c*D(x,#)", "c*D(#,x)", "V(x,#)", "V(#,x)", "V(x,y,#)", "V(#)", "c*-#", "c*--#", "(#)", "#",
            "a=M(c.xy,#);c", "a=M(#,c.xy);c", "a=#;c", "a=#;a*c", "m=M(c.xy,c.xy);a=m*#;c", "m=M(c.xy,c.xy);a=#*m;c", "c*x.x*#",
            "c*((((x*(x+#)))))", "c*((((A(x-#)))))", "c*((((N(x,#)))))",
        };
        String[] wrong = {
            "", "b", "z", "-b", "--b", "A(b)", "-A(-b)", "N(b,b)", "N(x,b)", "D(b,b)", "D(x,b)", "V(b,b)", "V(x,b).x", "M(b,b)",
            "1.x", "1.", ".1", "c.", "c.w", "c.xyzx", "x.y", "b.x", "(b)", "(b).x", "()", "(", ")", "-", "x+", "x*", "x/", "x-",
            "+x", "*x", "B(x)", "A()", "A(x,x)", "A", "N(x)", "V(x)", "x,x,x,x", "12345", "1.23456", "x=1", "x;", "c.xy+c", "A(c+c.xy)",
        };
        // Here V has its three numbers, or D and M their two arguments, so that nothing more fits.
        String[] fullPlaces = {
            "a=V(c,#);c", "V(V(c,#),1)", "a=V(c.xy,x,#);c", "V(V(x,c.xy,#),1)", "V(x,y,t,#)", "V(c,#)", "V(#,c)", "c*D(x,x,#)",
            "a=M(c.xy,c.xy,#);c", "N(c,c,#)", "A(c,#)",
        };
        for (String piece : wrong) {
            for (String place : places) {
                refused(place.replace("#", piece));
            }
            for (String place : fullPlaces) {
                refused(place.replace("#", piece));
            }
        }
        for (String place : places) {
            accepted(place.replace("#", fitting(place)));
        }
        for (String place : fullPlaces) {
            refused(place.replace("#", "x"));
        }
    }

    /** A sum that makes a right text of this one. */
    private static String fitting(String place) {
        String[] sums = {"x", "c.xy", "c"};
        for (String sum : sums) {
            if (Check.compile(new PixelFormula(), place.replace("#", sum))) {
                return sum;
            }
        }
        return "none";
    }

    private static void anyCharacterInsteadOfAPart() {
        for (char character = 33; character <= 126; character++) {
            boolean fits = "xytc0123456789".indexOf(character) >= 0;
            due("c*" + character, fits);
            due("c+x*" + character, fits);
            due("c*(x-" + character + ")", fits);
            due("c*N(x," + character + ")", fits);
            due("c+x." + character, character == 'x');
            due("c*1" + character + "1", "0123456789.+-*/".indexOf(character) >= 0);
            refused("c+x*" + character + ")");
            refused("c*(((((x*" + character + "))))))");
        }
    }

    /** Texts of just 160 characters: nothing behind the last one may be read. */
    private static void wholeLength() {
        accepted("-" + "1*".repeat(79) + "c");
        refused("1*".repeat(80));
        String[] ends = {"c", "(c)", "c.zyx", "A(c)", "V(x,y,t)", "-c", "a*c", "c*1.5", "c*1111.1111", "b=c;b", "(((((c)))))"};
        for (String end : ends) {
            accepted(filled(end));
        }
        String[] noEnds = {"", "a", "a=", "a=1", "a=c;", "c+", "c-", "c*", "c/", "c.", "c.xy", "x.", "c*1.", "c*1.5.", "1", "11",
            "(", "(c", "((((((", "A", "A(", "A(c", "N(c", "N(c,", "N(c,c", "V", "V(", "V(x,", "V(x,y,t", "V(x,y,t,", "M(c.xy,",
            "-", "=", ";", ")", ",", ".", "cc", "z", "x=", "z=", "B(", "c.xyzx"};
        for (String end : noEnds) {
            refused(filled(end));
        }
    }

    /** A text of 160 characters with this end. */
    private static String filled(String end) {
        int before = 160 - end.length();
        String text = "a=1;".repeat(before / 4 - 1) + "a=" + "1".repeat(before % 4 + 1) + ";" + end;
        Check.same("length of " + text, text.length(), 160);
        return text;
    }
}
