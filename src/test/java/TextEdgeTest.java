/** The edges of a text: which characters it may have, and how many (promises 2 and 3). */
public final class TextEdgeTest {
    public static void main(String[] args) {
        wordWithoutCharacters();
        zerosBetweenOthers();
        everyByte();
        wrongByteAmongRightOnes();
        lengthUpTo160();
        bothWrong();
        wrongWordsChangeNothing();
        eraseOfEmptyAndFull();
        Check.end();
    }

    private static void wordWithoutCharacters() {
        PixelFormula formula = new PixelFormula();
        Check.same("type(0) of no text", formula.type(0), 0);
        Check.same("type(0) again", formula.type(0), 0);
        Check.same("type(c)", formula.type('c'), 1);
        Check.same("type(0) behind c", formula.type(0), 1);
        Check.yes("compile() of c", formula.compile());
    }

    /** Each of the 16 ways in which the bytes of a word are there or 0. */
    private static void zerosBetweenOthers() {
        String text = "-c+c";
        for (int there = 0; there < 16; there++) {
            int word = 0;
            StringBuilder due = new StringBuilder();
            for (int i = 0; i < 4; i++) {
                boolean isThere = (there >> i & 1) != 0;
                word = word << 8 | (isThere ? text.charAt(i) : 0);
                due.append(isThere ? text.substring(i, i + 1) : "");
            }
            PixelFormula formula = new PixelFormula();
            Check.same("type(" + word + ")", formula.type(word), due.length());
            boolean fits = due.toString().matches("-?c([+-]c)?");
            Check.same("compile() of " + due, formula.compile() ? 1 : 0, fits ? 1 : 0);
            if (fits) {
                Check.same("code of " + due, Check.code(formula), Check.code(Check.compiled(due.toString())));
            }
        }
    }

    /** All 256 bytes at each of the four places of a word: 33 .. 126 are right, 32 and 127 no more. */
    private static void everyByte() {
        for (int shift = 0; shift < 32; shift += 8) {
            PixelFormula formula = new PixelFormula();
            int length = 0;
            for (int character = 0; character < 256; character++) {
                int word = character << shift;
                if (character == 0 || character >= 33 && character <= 126) {
                    length += character == 0 ? 0 : 1;
                    Check.same("type(" + word + ")", formula.type(word), length);
                } else {
                    Check.fails("type(" + word + ")", IllegalArgumentException.class, () -> formula.type(word));
                }
            }
            Check.same("length of all characters", formula.type(0), 94);
        }
    }

    /** Nothing of a word comes to the text if one byte of it is wrong, be it the last one. */
    private static void wrongByteAmongRightOnes() {
        int[] wrong = {1, 31, 32, 127, 128, 254, 255};
        for (int character : wrong) {
            PixelFormula formula = new PixelFormula();
            formula.type('c');
            for (int shift = 0; shift < 32; shift += 8) {
                int word = 0x2B632B63 & ~(0xFF << shift) | character << shift;
                Check.fails("type(" + word + ")", IllegalArgumentException.class, () -> formula.type(word));
            }
            Check.same("length behind " + character, formula.type(0), 1);
            Check.yes("compile() of c behind " + character, formula.compile());
        }
        PixelFormula formula = new PixelFormula();
        Check.fails("type(-1)", IllegalArgumentException.class, () -> formula.type(-1));
        Check.fails("type of the greatest int", IllegalArgumentException.class, () -> formula.type(Integer.MAX_VALUE));
        Check.fails("type of the least int", IllegalArgumentException.class, () -> formula.type(Integer.MIN_VALUE));
        Check.same("length behind them", formula.type(0), 0);
    }

    /** A word of each length at each length of the text close to 160. */
    private static void lengthUpTo160() {
        for (int before = 155; before <= 160; before++) {
            for (int more = 0; more <= 4; more++) {
                PixelFormula formula = new PixelFormula();
                Check.type(formula, "-".repeat(before));
                int word = 0;
                for (int i = 0; i < more; i++) {
                    word = word << 8 | 'c';
                }
                if (before + more <= 160) {
                    Check.same("type of " + more + " at " + before, formula.type(word), before + more);
                } else {
                    int tooMuch = word;
                    String what = "type of " + more + " at " + before;
                    Check.fails(what, IllegalStateException.class, () -> formula.type(tooMuch));
                    Check.same("length behind it", formula.type(0), before);
                }
            }
        }
    }

    /** A word with a wrong byte that would be too long as well: the exception named first is thrown. */
    private static void bothWrong() {
        PixelFormula formula = new PixelFormula();
        Check.type(formula, "a=1;".repeat(39) + "a*c");
        int[] words = {0x63636320, 0x20636363, 0x6363637F, 0x7F636363, 0x63630163, 0x63FF6363, 0x63000080, -1};
        for (int word : words) {
            Check.fails("type(" + word + ") at 159", IllegalArgumentException.class, () -> formula.type(word));
        }
        Check.fails("type of right ones at 159", IllegalStateException.class, () -> formula.type(0x63000063));
        Check.same("length behind them", formula.type(0), 159);
        Check.yes("compile() behind them", formula.compile());
        Check.same("type of one at 159", formula.type('-'), 160);
        Check.fails("type of a wrong one at 160", IllegalArgumentException.class, () -> formula.type(32));
        Check.fails("type of a right one at 160", IllegalStateException.class, () -> formula.type(33));
        Check.same("type(0) at 160", formula.type(0), 160);
    }

    private static void wrongWordsChangeNothing() {
        PixelFormula formula = Check.compiled("q=c.xy;V(q,x)*c");
        formula.run(9);
        formula.paint(7, 3, 0x123456);
        Check.compile(formula, "x");
        formula.erase();
        Check.type(formula, "a=1;".repeat(39) + "a*c");
        String before = State.of(formula);
        Check.fails("type(32)", IllegalArgumentException.class, () -> formula.type(32));
        Check.fails("type of too many", IllegalStateException.class, () -> formula.type(0x2B63));
        Check.same("state", State.of(formula), before);
        Check.yes("compile()", formula.compile());
        Check.same("code", Check.code(formula), Check.code(Check.compiled("a=1;a*c")));
    }

    private static void eraseOfEmptyAndFull() {
        PixelFormula formula = new PixelFormula();
        String fresh = State.of(formula);
        formula.erase();
        formula.erase();
        Check.same("state behind erase() of no text", State.of(formula), fresh);
        Check.type(formula, "a=1;".repeat(39) + "a+-c");
        Check.yes("compile() of 160 characters", formula.compile());
        formula.paint(0, 0, 7);
        String before = State.of(formula);
        formula.erase();
        Check.same("state behind erase() of 160", State.of(formula), before.replace("length 160", "length 0"));
        Check.no("compile() behind erase()", formula.compile());
        Check.same("state behind that", State.of(formula), before.replace("length 160", "length 0"));
        formula.erase();
        Check.type(formula, "x".repeat(160));
        Check.same("length behind erase() and 160 more", formula.type(0), 160);
        formula.erase();
        // Of a longer text nothing may come back behind a shorter one.
        Check.same("type(c) behind erase()", formula.type('c'), 1);
        Check.yes("compile() of c", formula.compile());
        Check.same("code of c", Check.code(formula), "INPUT 3 0; INPUT 4 0; INPUT 5 0; -> 0 1 2");
    }
}
