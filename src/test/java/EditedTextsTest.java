import java.util.List;

/** Texts that are one character away from right ones: each place, each character, against a second implementation. */
public final class EditedTextsTest {
    private static final String[] TEXTS = {
        "c", "a=1.5;c*a", "b=c.xy;V(b,-x)", "m=M(c.xy,V(x,y));V(m*c.zx,t)/2", "A(-c)+F(c)-N(c,1)",
        "X(t,c)*S(c,0.25)", "D(c,c)*c", "(((((c)))))", "(1).xxx-c.zyx", "d=x;d=d*d;V(d,V(d,1))",
    };
    private static int accepted = 0;
    private static int refused = 0;

    public static void main(String[] args) {
        for (String text : TEXTS) {
            Check.yes("compile() of " + text, Check.compile(new PixelFormula(), text));
            for (int at = 0; at <= text.length(); at++) {
                check(text.substring(0, at));
                check(text.substring(at));
                edit(text.substring(0, at), text.substring(at));
            }
        }
        // If the texts became one-sided, the test would say little.
        Check.yes("enough are accepted: " + accepted, accepted > 500);
        Check.yes("enough are refused: " + refused, refused > 20000);
        Check.end();
    }

    private static void edit(String before, String behind) {
        if (!behind.isEmpty()) {
            check(before + behind.substring(1));
        }
        for (char character = 33; character <= 126; character++) {
            check(before + character + behind);
            if (!behind.isEmpty()) {
                check(before + character + behind.substring(1));
            }
        }
    }

    private static void check(String text) {
        PixelFormula formula = new PixelFormula();
        boolean got = Check.compile(formula, text);
        String due = codeOf(text);
        Check.same("compile() of " + text, got ? 1 : 0, due.isEmpty() ? 0 : 1);
        if (got) {
            Check.same("code of " + text, Check.code(formula), due);
            accepted++;
        } else {
            Check.same("size() behind " + text, formula.size(), 0);
            refused++;
        }
    }

    /** As Check.code writes it; empty for a text that is refused. */
    private static String codeOf(String text) {
        Oracle.Instructions row = new Oracle.Instructions();
        List<Integer> result;
        try {
            result = new Oracle<>(row).program(text);
        } catch (Oracle.Refused e) {
            return "";
        }
        StringBuilder code = new StringBuilder();
        for (String instruction : row.row.keySet()) {
            code.append(instruction).append("; ");
        }
        code.append("->");
        for (int place : result) {
            code.append(' ').append(place);
        }
        return code.toString();
    }
}
