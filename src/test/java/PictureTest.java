/** Promises 10 to 12: paint, run and pixel. */
public final class PictureTest {
    public static void main(String[] args) {
        painted();
        wrongCalls();
        eachPointItsOwn();
        roundedAndCutOff();
        againAndAgain();
        Check.end();
    }

    private static int some(int x, int y) {
        return (x * 36 << 16) + (y * 85 << 8) + (x * 4 + y) * 8;
    }

    private static PixelFormula paintedWith(String text) {
        PixelFormula formula = Check.compiled(text);
        for (int y = 0; y < 4; y++) {
            for (int x = 0; x < 8; x++) {
                formula.paint(x, y, some(x, y));
            }
        }
        return formula;
    }

    private static void painted() {
        PixelFormula formula = new PixelFormula();
        formula.paint(7, 3, 0xFFFFFF);
        formula.paint(1, 2, 0x123456);
        formula.paint(1, 2, 0x654321);
        formula.paint(0, 0, 0);
        String zeros = "0 0 0 0 0 0 0 0/";
        Check.same("picture", Check.picture(formula), zeros + zeros + "0 654321 0 0 0 0 0 0/0 0 0 0 0 0 0 ffffff/");
        Check.same("size()", formula.size(), 0);
        PixelFormula all = paintedWith("c");
        for (int y = 0; y < 4; y++) {
            for (int x = 0; x < 8; x++) {
                Check.same("pixel(" + x + ", " + y + ")", all.pixel(x, y), some(x, y));
            }
        }
    }

    private static void wrongCalls() {
        PixelFormula formula = paintedWith("c");
        String picture = Check.picture(formula);
        int[][] wrongPoints = {{-1, 0}, {8, 0}, {0, -1}, {0, 4}, {8, -1}, {3, 7}, {Integer.MAX_VALUE, 0},
            {0, Integer.MIN_VALUE}, {Integer.MIN_VALUE, Integer.MAX_VALUE}};
        int[] wrongColors = {-1, 0x1000000, Integer.MAX_VALUE, Integer.MIN_VALUE};
        for (int[] point : wrongPoints) {
            String at = "(" + point[0] + ", " + point[1] + ")";
            Check.fails("pixel" + at, IndexOutOfBoundsException.class, () -> formula.pixel(point[0], point[1]));
            Check.fails("paint" + at, IndexOutOfBoundsException.class, () -> formula.paint(point[0], point[1], 1));
            Check.fails("paint" + at + " of -1", IndexOutOfBoundsException.class,
                () -> formula.paint(point[0], point[1], -1));
        }
        for (int color : wrongColors) {
            Check.fails("paint of " + color, IllegalArgumentException.class, () -> formula.paint(7, 3, color));
        }
        Check.same("picture behind wrong calls", Check.picture(formula), picture);
        PixelFormula fresh = new PixelFormula();
        Check.no("a refused text", Check.compile(fresh, "x"));
        fresh.paint(1, 1, 9);
        Check.fails("run(0) without code", IllegalStateException.class, () -> fresh.run(0));
        Check.same("picture behind it", fresh.pixel(1, 1), 9);
    }

    private static void eachPointItsOwn() {
        PixelFormula formula = paintedWith("c.zxy");
        formula.run(0);
        PixelFormula places = paintedWith("V(x,y,t)/8");
        places.run(65536 * 3);
        for (int y = 0; y < 4; y++) {
            for (int x = 0; x < 8; x++) {
                int color = some(x, y);
                int turned = (color & 0xFF) << 16 | color >> 8;
                Check.same("turned pixel(" + x + ", " + y + ")", formula.pixel(x, y), turned);
                int place = x * 32 << 16 | y * 32 << 8 | 96;
                Check.same("place at pixel(" + x + ", " + y + ")", places.pixel(x, y), place);
            }
        }
    }

    private static void roundedAndCutOff() {
        int[][] timesAndNumbers = {
            {0, 0}, {-1, 0}, {-256, 0}, {Integer.MIN_VALUE, 0}, {255, 0}, {256, 1}, {511, 1}, {512, 2}, {65279, 254},
            {65280, 255}, {65535, 255}, {65536, 255}, {131072, 255}, {Integer.MAX_VALUE, 255},
        };
        for (int[] row : timesAndNumbers) {
            PixelFormula formula = Check.compiled("V(t,0,1)");
            formula.run(row[0]);
            Check.same("V(t,0,1) with t = " + row[0], formula.pixel(4, 2), row[1] << 16 | 255);
            Check.yes("compile()", Check.compile(formula, "V(0,t,0)"));
            formula.run(row[0]);
            Check.same("V(0,t,0) with t = " + row[0], formula.pixel(7, 3), row[1] << 8);
        }
    }

    private static void againAndAgain() {
        PixelFormula formula = Check.compiled("c+x/256+t");
        formula.paint(3, 1, 0x1020FE);
        formula.run(256);
        Check.same("first run", formula.pixel(3, 1), 0x1424FF);
        formula.run(0);
        Check.same("second run", formula.pixel(3, 1), 0x1727FF);
        formula.run(-256 * 23);
        Check.same("third run", formula.pixel(3, 1), 0x0313EB);
        // The text may change; the code is that of the text accepted last.
        Check.no("a refused text", Check.compile(formula, "c.xy"));
        formula.run(0);
        Check.same("run behind a refused text", formula.pixel(3, 1), 0x0616EE);
        Check.yes("another text", Check.compile(formula, "c.zyx"));
        Check.same("compile() paints nothing", formula.pixel(3, 1), 0x0616EE);
        formula.run(0);
        Check.same("run of the other code", formula.pixel(3, 1), 0xEE1606);
    }
}
