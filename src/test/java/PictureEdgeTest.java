/** THE PICTURE at its edges: corners, results beyond 0 and 255, the least and the greatest time (promises 10 to 12). */
public final class PictureEdgeTest {
    private static final int MOST = Integer.MAX_VALUE;
    private static final int LEAST = Integer.MIN_VALUE;
    private static final int[][] CORNERS = {{0, 0}, {7, 0}, {0, 3}, {7, 3}};

    public static void main(String[] args) {
        cornersArePainted();
        pointsBeyondTheCorners();
        colorsAndBeyond();
        inputsAtTheCorners();
        inputsOfColors();
        resultsBeyond();
        greatestAndLeastTime();
        allPointsAtOnce();
        runsOneBehindTheOther();
        runWithoutCode();
        Check.end();
    }

    private static void cornersArePainted() {
        for (int[] corner : CORNERS) {
            PixelFormula formula = new PixelFormula();
            formula.paint(corner[0], corner[1], 0xABCDEF);
            for (int y = 0; y < 4; y++) {
                for (int x = 0; x < 8; x++) {
                    boolean painted = x == corner[0] && y == corner[1];
                    Check.same("pixel(" + x + ", " + y + ")", formula.pixel(x, y), painted ? 0xABCDEF : 0);
                }
            }
        }
    }

    private static void pointsBeyondTheCorners() {
        int[] wrongX = {-1, 8, 9, 32, MOST, LEAST};
        int[] wrongY = {-1, 4, 5, 8, MOST, LEAST};
        PixelFormula formula = new PixelFormula();
        for (int x : wrongX) {
            for (int y = 0; y < 4; y++) {
                noPoint(formula, x, y);
            }
        }
        for (int y : wrongY) {
            noPoint(formula, 0, y);
            noPoint(formula, 7, y);
            for (int x : wrongX) {
                noPoint(formula, x, y);
            }
        }
        Check.same("picture behind them", Check.picture(formula), "0 0 0 0 0 0 0 0/".repeat(4));
    }

    private static void noPoint(PixelFormula formula, int x, int y) {
        String at = "(" + x + ", " + y + ")";
        Check.fails("pixel" + at, IndexOutOfBoundsException.class, () -> formula.pixel(x, y));
        Check.fails("paint" + at, IndexOutOfBoundsException.class, () -> formula.paint(x, y, 0xFFFFFF));
        // Both are wrong: the one named first is thrown.
        Check.fails("paint" + at + " of no color", IndexOutOfBoundsException.class, () -> formula.paint(x, y, -1));
    }

    private static void colorsAndBeyond() {
        PixelFormula formula = Check.compiled("c");
        int[] right = {0, 1, 0xFF, 0x100, 0xFFFF, 0x10000, 0xFF0000, 0xFFFFFE, 0xFFFFFF};
        for (int color : right) {
            formula.paint(7, 3, color);
            Check.same("pixel(7, 3)", formula.pixel(7, 3), color);
            Check.same("blue", formula.value(2, 0, 0, 0, color), (color & 255) * 256);
        }
        int[] wrong = {-1, 0x1000000, 0x1000001, 0xFF000000, MOST, LEAST};
        for (int color : wrong) {
            Check.fails("paint of " + color, IllegalArgumentException.class, () -> formula.paint(7, 3, color));
            Check.fails("paint of " + color, IllegalArgumentException.class, () -> formula.paint(0, 0, color));
            Check.fails("value of " + color, IllegalArgumentException.class, () -> formula.value(0, 0, 0, 0, color));
            Check.fails("value of " + color, IllegalArgumentException.class, () -> formula.value(2, 0, 0, 0, color));
            Check.fails("value(3) of " + color, IndexOutOfBoundsException.class, () -> formula.value(3, 0, 0, 0, color));
        }
        Check.same("pixel(7, 3) behind them", formula.pixel(7, 3), 0xFFFFFF);
        Check.same("pixel(0, 0) behind them", formula.pixel(0, 0), 0);
    }

    /** x and y are so many times 65536 at each point: 256ths of them are just the color's numbers. */
    private static void inputsAtTheCorners() {
        PixelFormula formula = Check.compiled("V(x/256,y/256,t)");
        formula.run(255 * 256);
        for (int y = 0; y < 4; y++) {
            for (int x = 0; x < 8; x++) {
                Check.same("pixel(" + x + ", " + y + ")", formula.pixel(x, y), x << 16 | y << 8 | 255);
            }
        }
        // A step is 1 where its first is not more than its second.
        int[][] dueAtEdges = {{7, 3, 0xFFFF00}, {6, 3, 0x00FF00}, {7, 2, 0xFF0000}, {0, 0, 0x0000FF}, {1, 0, 0}};
        PixelFormula edges = Check.compiled("V(S(7,x),S(3,y),S(x+y,0))");
        edges.run(0);
        for (int[] row : dueAtEdges) {
            Check.same("pixel(" + row[0] + ", " + row[1] + ") at the edges", edges.pixel(row[0], row[1]), row[2]);
        }
    }

    private static void inputsOfColors() {
        PixelFormula formula = Check.compiled("c");
        int[] colors = {0, 0xFFFFFF, 0xFF0000, 0x00FF00, 0x0000FF, 0x7F80FF, 0x010203};
        for (int color : colors) {
            int[] parts = {color >> 16, color >> 8 & 255, color & 255};
            for (int k = 0; k < 3; k++) {
                Check.same("value(" + k + ") of " + color, formula.value(k, LEAST, MOST, -1, color), 256 * parts[k]);
            }
            formula.paint(3, 2, color);
            formula.run(0);
            Check.same("pixel(3, 2)", formula.pixel(3, 2), color);
        }
    }

    private static void resultsBeyond() {
        int[][] resultsAndNumbers = {
            {LEAST, 0}, {LEAST + 1, 0}, {-65536, 0}, {-257, 0}, {-256, 0}, {-255, 0}, {-1, 0}, {0, 0}, {1, 0}, {255, 0},
            {256, 1}, {257, 1}, {511, 1}, {512, 2}, {65023, 253}, {65024, 254}, {65279, 254}, {65280, 255}, {65281, 255},
            {65535, 255}, {65536, 255}, {65537, 255}, {0x10000 * 256, 255}, {MOST - 1, 255}, {MOST, 255},
        };
        for (int[] row : resultsAndNumbers) {
            beyond("V(t,0,0)", row[0], row[1] << 16);
            beyond("V(0,t,0)", row[0], row[1] << 8);
            beyond("V(0,0,t)", row[0], row[1]);
            beyond("t.xxx", row[0], row[1] * 0x010101);
            // What is beyond in one number must not come into the one beside it.
            beyond("V(1,t,1)", row[0], 0xFF00FF | row[1] << 8);
            beyond("V(-9,t,-9)", row[0], row[1] << 8);
        }
    }

    private static void beyond(String text, int t, int due) {
        PixelFormula formula = Check.compiled(text);
        formula.run(t);
        for (int[] corner : CORNERS) {
            Check.same(text + " at " + corner[0] + ", " + corner[1] + " with t = " + t, formula.pixel(corner[0], corner[1]), due);
        }
    }

    private static void greatestAndLeastTime() {
        beyond("V(t,-t,t-1)", MOST, 0xFF00FF);
        beyond("V(t,-t,t-1)", LEAST, 0x00FF00);
        beyond("V(t+1,1-t,A(t))", LEAST, 0x00FFFF);
        beyond("V(S(t,t),t-t,t/t)", LEAST, 0xFF00FF);
        beyond("V(t+t,0-t,t*t)", LEAST, 0x00FFFF);
        PixelFormula formula = Check.compiled("t.xxx");
        Check.same("value of the least time", formula.value(0, 0, 0, LEAST, 0), LEAST);
        Check.same("value of the greatest time", formula.value(0, 0, 0, MOST, 0), MOST);
    }

    /** A point's new color comes from its own old one. */
    private static void allPointsAtOnce() {
        PixelFormula formula = Check.compiled("c.yzx");
        for (int point = 0; point < 32; point++) {
            formula.paint(point % 8, point / 8, point * 0x070605);
        }
        formula.run(0);
        for (int point = 0; point < 32; point++) {
            int color = point * 0x070605;
            int due = (color << 8 | color >> 16) & 0xFFFFFF;
            Check.same("point " + point, formula.pixel(point % 8, point / 8), due);
        }
    }

    private static void runsOneBehindTheOther() {
        PixelFormula formula = Check.compiled("c+V(1,-1,t)/256");
        formula.paint(0, 0, 0xFE0100);
        formula.run(65536);
        Check.same("first run", formula.pixel(0, 0), 0xFF0001);
        formula.run(65536);
        Check.same("second run, no wrap-around", formula.pixel(0, 0), 0xFF0002);
        formula.run(-65536 * 3);
        Check.same("third run, below 0", formula.pixel(0, 0), 0xFF0000);
    }

    private static void runWithoutCode() {
        PixelFormula formula = new PixelFormula();
        formula.paint(7, 3, 5);
        int[] times = {0, 1, -1, MOST, LEAST};
        for (int t : times) {
            Check.fails("run(" + t + ")", IllegalStateException.class, () -> formula.run(t));
        }
        Check.type(formula, "c");
        Check.fails("run(0) with a text alone", IllegalStateException.class, () -> formula.run(0));
        Check.type(formula, "+");
        Check.no("compile() of c+", formula.compile());
        Check.fails("run(0) behind a refused text", IllegalStateException.class, () -> formula.run(0));
        Check.same("pixel(7, 3)", formula.pixel(7, 3), 5);
        Check.type(formula, "1");
        Check.yes("compile() of c+1", formula.compile());
        Check.same("pixel(7, 3) behind compile()", formula.pixel(7, 3), 5);
        formula.run(0);
        Check.same("pixel(7, 3) behind run(0)", formula.pixel(7, 3), 0xFFFFFF);
    }
}
