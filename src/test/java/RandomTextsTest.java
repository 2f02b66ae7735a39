import java.math.BigInteger;
import java.util.List;
import java.util.Random;

/** Promises 4 to 9 and 11 for many texts, against a second implementation of the language. */
public final class RandomTextsTest {
    private static final int TEXTS = 20000;
    private static final int[] EDGES = {
        0, 1, -1, 65536, -65536, 65535, 32768, Integer.MAX_VALUE, Integer.MIN_VALUE, 0x12345678, -0x12345678,
    };
    private static final Random RANDOM = new Random(7);
    private static int accepted = 0;
    private static int tooLong = 0;

    public static void main(String[] args) {
        Texts texts = new Texts(1);
        for (int i = 0; i < TEXTS; i++) {
            check(texts.next());
        }
        // If the texts became one-sided, the test would say little.
        Check.yes("enough texts are accepted: " + accepted, accepted > TEXTS / 4);
        Check.yes("enough texts are refused: " + (TEXTS - accepted), TEXTS - accepted > TEXTS / 8);
        Check.yes("enough texts need too many instructions: " + tooLong, tooLong > 20);
        Check.end();
    }

    private static void check(String text) {
        PixelFormula formula = new PixelFormula();
        Oracle.Instructions row = new Oracle.Instructions();
        Oracle<Integer> oracle = new Oracle<>(row);
        List<Integer> result = null;
        try {
            result = oracle.program(text);
        } catch (Oracle.Refused e) {
            Check.no("compile() of " + text, Check.compile(formula, text));
            return;
        }
        if (row.row.size() > 100) {
            tooLong++;
            Check.no("compile() of the long " + text, Check.compile(formula, text));
            return;
        }
        accepted++;
        boolean compiled = Check.compile(formula, text);
        Check.yes("compile() of " + text, compiled);
        if (compiled) {
            checkCode(formula, text, row, result);
            checkTypes(formula, text, oracle);
            checkValues(formula, text);
            checkRun(formula, text);
        }
    }

    private static void checkCode(PixelFormula formula, String text, Oracle.Instructions row, List<Integer> result) {
        StringBuilder due = new StringBuilder();
        for (String instruction : row.row.keySet()) {
            due.append(instruction).append("; ");
        }
        due.append("->");
        for (int place : result) {
            due.append(' ').append(place);
        }
        Check.same("code of " + text, Check.code(formula), due.toString());
    }

    private static void checkTypes(PixelFormula formula, String text, Oracle<Integer> oracle) {
        for (char letter = 'a'; letter <= 'z'; letter++) {
            List<Integer> value = oracle.variables.get(letter);
            Check.same("type of " + letter + " in " + text, formula.typeOf(letter - 'a'), value == null ? 0 : value.size());
        }
    }

    private static int anyNumber() {
        return RANDOM.nextInt(3) == 0 ? EDGES[RANDOM.nextInt(EDGES.length)] : RANDOM.nextInt() >> RANDOM.nextInt(24);
    }

    private static List<BigInteger> exact(String text, int x, int y, int t, int color) {
        int red = (color >> 16) * 256;
        int green = (color >> 8 & 255) * 256;
        int blue = (color & 255) * 256;
        return new Oracle<>(new Oracle.Exact(x, y, t, red, green, blue)).program(text);
    }

    private static void checkValues(PixelFormula formula, String text) {
        for (int turn = 0; turn < 4; turn++) {
            int x = anyNumber();
            int y = anyNumber();
            int t = anyNumber();
            int color = RANDOM.nextInt(0x1000000);
            List<BigInteger> due = exact(text, x, y, t, color);
            for (int i = 0; i < 3; i++) {
                String what = "number " + i + " of " + text + " with " + x + " " + y + " " + t + " " + color;
                Check.same(what, formula.value(formula.result(i), x, y, t, color), due.get(i).intValueExact());
            }
        }
    }

    private static void checkRun(PixelFormula formula, String text) {
        int x = RANDOM.nextInt(8);
        int y = RANDOM.nextInt(4);
        int t = anyNumber();
        int color = RANDOM.nextInt(0x1000000);
        formula.paint(x, y, color);
        formula.run(t);
        int due = 0;
        for (BigInteger number : exact(text, x * 65536, y * 65536, t, color)) {
            due = due * 256 + Math.max(0, Math.min(255, Math.floorDiv(number.intValueExact(), 256)));
        }
        Check.same("point " + x + " " + y + " behind run(" + t + ") of " + text, formula.pixel(x, y), due);
    }
}
