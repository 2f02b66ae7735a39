/** Which types go together and which do not, all of them, for each operator, each function and the dot. */
public final class TypesEdgeTest {
    // A variable of each type, so that an argument is one letter: p 1, q 2, r 3, s 4.
    private static final String GIVEN = "p=x;q=c.xy;r=c;s=M(q,q);";
    private static final String LETTERS = "pqrs";

    // The row is the left one's type, the digit's place the right one's; 0 where they do not go together.
    private static final String[] NUMBER_BY_NUMBER = {"1234", "2200", "3030", "4004"};
    private static final String[] TIMES = {"1234", "2200", "3030", "4204"};
    private static final String[] DIVIDED = {"1230", "2200", "3030", "4000"};
    private static final String[] DOTTED = {"1000", "0100", "0010", "0000"};
    private static final String[] MATRIX = {"0000", "0400", "0000", "0000"};
    private static final String[] VECTOR = {"2300", "3000", "0000", "0000"};

    public static void main(String[] args) {
        operators();
        functionsOfOne();
        functionsOfTwo();
        vectors();
        tooFewAndTooManyArguments();
        lettersThatAreNoFunctions();
        dots();
        dotsBehindConstants();
        typeOfTheResult();
        Check.end();
    }

    /** The sum's type is due, or it is refused where that is 0. */
    private static void due(String sum, int type) {
        PixelFormula formula = new PixelFormula();
        boolean accepted = Check.compile(formula, GIVEN + "a=" + sum + ";c");
        Check.same("compile() with a=" + sum, accepted ? 1 : 0, type == 0 ? 0 : 1);
        Check.same("type of " + sum, formula.typeOf(0), type);
    }

    private static void table(String before, String between, String behind, String[] types) {
        for (int left = 0; left < 4; left++) {
            for (int right = 0; right < 4; right++) {
                String sum = before + LETTERS.charAt(left) + between + LETTERS.charAt(right) + behind;
                due(sum, types[left].charAt(right) - '0');
            }
        }
    }

    private static void operators() {
        table("", "+", "", NUMBER_BY_NUMBER);
        table("", "-", "", NUMBER_BY_NUMBER);
        table("", "*", "", TIMES);
        table("", "/", "", DIVIDED);
        table("", "*-", "", TIMES);
        table("-", "/", "", DIVIDED);
        table("(", ")*(", ")", TIMES);
    }

    private static void functionsOfOne() {
        for (int type = 1; type <= 4; type++) {
            char letter = LETTERS.charAt(type - 1);
            due("A(" + letter + ")", type);
            due("F(" + letter + ")", type);
            due("-" + letter, type);
            due("--" + letter, type);
            due("(" + letter + ")", type);
            due("" + letter, type);
        }
    }

    private static void functionsOfTwo() {
        table("N(", ",", ")", NUMBER_BY_NUMBER);
        table("X(", ",", ")", NUMBER_BY_NUMBER);
        table("S(", ",", ")", NUMBER_BY_NUMBER);
        table("D(", ",", ")", DOTTED);
        table("M(", ",", ")", MATRIX);
        table("V(", ",", ")", VECTOR);
    }

    private static void vectors() {
        for (int type = 1; type <= 4; type++) {
            due("V(" + LETTERS.charAt(type - 1) + ")", type == 2 || type == 3 ? type : 0);
        }
        for (int i = 0; i < 64; i++) {
            char first = LETTERS.charAt(i / 16);
            char second = LETTERS.charAt(i / 4 % 4);
            char third = LETTERS.charAt(i % 4);
            due("V(" + first + "," + second + "," + third + ")", i == 0 ? 3 : 0);
        }
        due("V(p,p,p,p)", 0);
        due("V(q,p,p)", 0);
        due("V()", 0);
    }

    private static void tooFewAndTooManyArguments() {
        String[] ofOne = {"A", "F"};
        for (String name : ofOne) {
            due(name + "()", 0);
            due(name + "(p,p)", 0);
            due(name + "(p,p,p)", 0);
            due(name + "(p,)", 0);
            due(name + "(,p)", 0);
        }
        String[] ofTwo = {"N", "X", "S", "D", "M"};
        for (String name : ofTwo) {
            String fit = name.equals("M") ? "q" : "p";
            due(name + "()", 0);
            due(name + "(" + fit + ")", 0);
            due(name + "(" + fit + ",)", 0);
            due(name + "(," + fit + ")", 0);
            due(name + "(,)", 0);
            due(name + "(" + fit + "," + fit + "," + fit + ")", 0);
            due(name + "(" + fit + "," + fit + ",)", 0);
            due(name + "(" + fit + fit + ")", 0);
        }
        due("V(,)", 0);
        due("V(p,p,)", 0);
        due("V(q,)", 0);
        due("V(,q)", 0);
        due("V(p,,p)", 0);
    }

    private static void lettersThatAreNoFunctions() {
        for (char name = 'A'; name <= 'Z'; name++) {
            if ("AFNXSDVM".indexOf(name) < 0) {
                due(name + "(p)", 0);
                due(name + "(q,q)", 0);
                due(name + "(p,p,p)", 0);
            }
            due("" + name, 0);
            due(name + "p", 0);
            due(name + ".x", 0);
        }
        due("a(p)", 0);
        due("x(p)", 0);
    }

    /** Each row of no to four letters out of x y z and w, behind each type. */
    private static void dots() {
        for (int type = 1; type <= 4; type++) {
            dots(type, "");
        }
    }

    private static void dots(int type, String letters) {
        boolean fits = type < 4 && letters.length() >= 1 && letters.length() <= 3;
        for (char letter : letters.toCharArray()) {
            fits = fits && letter != 'w' && letter - 'x' < type;
        }
        due(LETTERS.charAt(type - 1) + "." + letters, fits ? letters.length() : 0);
        if (letters.length() < 4) {
            for (char letter = 'w'; letter <= 'z'; letter++) {
                dots(type, letters + letter);
            }
        }
    }

    private static void dotsBehindConstants() {
        String[] letters = {"x", "xx", "xxx", "y", "z"};
        for (String some : letters) {
            due("1." + some, 0);
            due("1.5." + some, 0);
            due("-1." + some, 0);
            due("9999." + some, 0);
            due("9999.9999." + some, 0);
            due("(1)." + some, some.startsWith("x") ? some.length() : 0);
            due("(1.5)." + some, some.startsWith("x") ? some.length() : 0);
            due("(-1)." + some, some.startsWith("x") ? some.length() : 0);
        }
        due("r.x.x", 0);
        due("(r.x).x", 1);
        due("(r.zyx).z", 1);
        due("(r.zy).z", 0);
    }

    /** Only a result of type 3 is one. */
    private static void typeOfTheResult() {
        for (int type = 1; type <= 4; type++) {
            PixelFormula formula = new PixelFormula();
            boolean accepted = Check.compile(formula, GIVEN + LETTERS.charAt(type - 1));
            Check.same("compile() of a result of type " + type, accepted ? 1 : 0, type == 3 ? 1 : 0);
        }
    }
}
