/**
 * A small language of numbers, vectors and matrices: a text is typed, compiled to straight code,
 * and the code paints a picture anew, point by point.
 */
public final class PixelFormula {
    public static final int NONE = -1;

    private static final int MOST_CHARACTERS = 160;
    private static final int LEAST_CHARACTER = 33;
    private static final int GREATEST_CHARACTER = 126;
    private static final int MOST_BRACKETS = 5;
    private static final int MOST_INSTRUCTIONS = 100;
    private static final int LETTERS = 26;

    private static final int WIDTH = 8;
    private static final int HEIGHT = 4;
    private static final int GREATEST_COLOR = 0xFFFFFF;

    private static final int ONE = 65536;
    private static final int GREATEST = 0x7FFFFFFF;
    private static final int LEAST = 0x80000000;

    // A type is also the count of the numbers that a value of it has.
    private static final int NUMBER = 1;
    private static final int VECTOR_2 = 2;
    private static final int VECTOR_3 = 3;
    private static final int MATRIX = 4;

    private static final int CONSTANT = 0;
    private static final int INPUT = 1;
    private static final int ADD = 2;
    private static final int SUB = 3;
    private static final int MUL = 4;
    private static final int DIV = 5;
    private static final int MIN = 6;
    private static final int MAX = 7;
    private static final int STEP = 8;
    private static final int NEG = 9;
    private static final int ABS = 10;
    private static final int FLOOR = 11;

    private static final int INPUT_X = 0;
    private static final int INPUT_Y = 1;
    private static final int INPUT_T = 2;
    private static final int INPUT_COLOR = 3;
    private static final int INPUTS = 6;

    private final char[] text = new char[MOST_CHARACTERS];
    private int length = 0;
    private Code code = new Code();
    private final Compiler compiler = new Compiler();
    private final Machine machine = new Machine();
    private final int[] picture = new int[WIDTH * HEIGHT];

    public PixelFormula() {
    }

    public int type(int word) throws IllegalArgumentException, IllegalStateException {
        int more = 0;
        for (int shift = 24; shift >= 0; shift -= 8) {
            int character = (word >>> shift) & 0xFF;
            if (character != 0) {
                if (character < LEAST_CHARACTER || character > GREATEST_CHARACTER) {
                    throw new IllegalArgumentException();
                }
                more++;
            }
        }
        if (length + more > MOST_CHARACTERS) {
            throw new IllegalStateException();
        }
        for (int shift = 24; shift >= 0; shift -= 8) {
            int character = (word >>> shift) & 0xFF;
            if (character != 0) {
                text[length] = (char) character;
                length++;
            }
        }
        return length;
    }

    public void erase() {
        length = 0;
    }

    public boolean compile() {
        if (!compiler.accepts(text, length)) {
            return false;
        }
        code = compiler.exchange(code);
        return true;
    }

    public int size() {
        return code.count;
    }

    public int instruction(int k, int what) throws IndexOutOfBoundsException {
        if (!isInstruction(k) || what < 0 || what > 2) {
            throw new IndexOutOfBoundsException();
        }
        if (what == 0) {
            return code.kinds[k];
        }
        return what == 1 ? code.firsts[k] : code.seconds[k];
    }

    public int result(int i) throws IllegalStateException, IndexOutOfBoundsException {
        if (!hasCode()) {
            throw new IllegalStateException();
        }
        if (i < 0 || i >= VECTOR_3) {
            throw new IndexOutOfBoundsException();
        }
        return code.results[i];
    }

    public int typeOf(int letter) throws IndexOutOfBoundsException {
        if (letter < 0 || letter >= LETTERS) {
            throw new IndexOutOfBoundsException();
        }
        return code.variableTypes[letter];
    }

    public int value(int k, int x, int y, int t, int color) throws IndexOutOfBoundsException, IllegalArgumentException {
        if (!isInstruction(k)) {
            throw new IndexOutOfBoundsException();
        }
        if (!isColor(color)) {
            throw new IllegalArgumentException();
        }
        machine.work(code, x, y, t, color);
        return machine.made[k];
    }

    public void paint(int x, int y, int color) throws IndexOutOfBoundsException, IllegalArgumentException {
        if (!isPoint(x, y)) {
            throw new IndexOutOfBoundsException();
        }
        if (!isColor(color)) {
            throw new IllegalArgumentException();
        }
        picture[y * WIDTH + x] = color;
    }

    public void run(int t) throws IllegalStateException {
        if (!hasCode()) {
            throw new IllegalStateException();
        }
        for (int y = 0; y < HEIGHT; y++) {
            for (int x = 0; x < WIDTH; x++) {
                int point = y * WIDTH + x;
                machine.work(code, x * ONE, y * ONE, t, picture[point]);
                picture[point] = machine.colorOf(code);
            }
        }
    }

    public int pixel(int x, int y) throws IndexOutOfBoundsException {
        if (!isPoint(x, y)) {
            throw new IndexOutOfBoundsException();
        }
        return picture[y * WIDTH + x];
    }

    // The code of an accepted text makes three numbers, so it is never without instructions.
    private boolean hasCode() {
        return code.count > 0;
    }

    private boolean isInstruction(int k) {
        return k >= 0 && k < code.count;
    }

    private static boolean isPoint(int x, int y) {
        return x >= 0 && x < WIDTH && y >= 0 && y < HEIGHT;
    }

    private static boolean isColor(int color) {
        return color >= 0 && color <= GREATEST_COLOR;
    }

    /** The operations on numbers, ints that stand for so many 65536ths. */
    private static final class Numbers {
        private Numbers() {
        }

        static int operate(int kind, int a, int b) {
            switch (kind) {
                case ADD:
                    return saturate((long) a + b);
                case SUB:
                    return saturate((long) a - b);
                case MUL:
                    return saturate(((long) a * b) >> 16);
                case DIV:
                    return divide(a, b);
                case MIN:
                    return Math.min(a, b);
                case MAX:
                    return Math.max(a, b);
                case STEP:
                    return a <= b ? ONE : 0;
                case NEG:
                    return saturate(-(long) a);
                case ABS:
                    return saturate(Math.abs((long) a));
                case FLOOR:
                    return a & -ONE;
                default:
                    return 0;
            }
        }

        private static int divide(int a, int b) {
            if (b != 0) {
                return saturate((long) a * ONE / b);
            }
            if (a == 0) {
                return 0;
            }
            return a > 0 ? GREATEST : LEAST;
        }

        private static int saturate(long number) {
            if (number > GREATEST) {
                return GREATEST;
            }
            return number < LEAST ? LEAST : (int) number;
        }
    }

    /** The instructions of a text, which of them make its result, and the types of its variables. */
    private static final class Code {
        final int[] kinds = new int[MOST_INSTRUCTIONS];
        final int[] firsts = new int[MOST_INSTRUCTIONS];
        final int[] seconds = new int[MOST_INSTRUCTIONS];
        final int[] results = new int[VECTOR_3];
        final int[] variableTypes = new int[LETTERS];
        int count = 0;
        boolean isTooLong = false;

        void clear() {
            count = 0;
            isTooLong = false;
        }

        /** Answers where the instruction stands; it is put down only if it is not there already. */
        int put(int kind, int first, int second) {
            for (int k = 0; k < count; k++) {
                if (kinds[k] == kind && firsts[k] == first && seconds[k] == second) {
                    return k;
                }
            }
            if (count == MOST_INSTRUCTIONS) {
                // Any instruction that exists will do: a code that is too long is thrown away.
                isTooLong = true;
                return 0;
            }
            kinds[count] = kind;
            firsts[count] = first;
            seconds[count] = second;
            count++;
            return count - 1;
        }
    }

    /** Works out what instructions make; its rows serve every call, so that none makes new ones. */
    private static final class Machine {
        final int[] made = new int[MOST_INSTRUCTIONS];
        private final int[] inputs = new int[INPUTS];

        void work(Code code, int x, int y, int t, int color) {
            inputs[INPUT_X] = x;
            inputs[INPUT_Y] = y;
            inputs[INPUT_T] = t;
            for (int i = 0; i < VECTOR_3; i++) {
                inputs[INPUT_COLOR + i] = ((color >> (16 - 8 * i)) & 0xFF) * 256;
            }
            for (int k = 0; k < code.count; k++) {
                made[k] = make(code.kinds[k], code.firsts[k], code.seconds[k]);
            }
        }

        private int make(int kind, int first, int second) {
            if (kind == CONSTANT) {
                return first;
            }
            if (kind == INPUT) {
                return inputs[first];
            }
            // Where only one instruction belongs to it, second is 0, which is there too and does no harm.
            return Numbers.operate(kind, made[first], made[second]);
        }

        int colorOf(Code code) {
            int color = 0;
            for (int i = 0; i < VECTOR_3; i++) {
                int part = made[code.results[i]] >> 8;
                color = color << 8 | Math.max(0, Math.min(255, part));
            }
            return color;
        }
    }

    /**
     * What a piece of text stands for: its type and the instructions that make its numbers. All of it
     * is packed into one int that is never negative, so that compiling makes no objects: four times
     * 7 bits for the instructions (fewer than 128), the first one lowest, and the type above them.
     */
    private static final class Value {
        private static final int BITS = 7;
        private static final int MASK = 127;

        private Value() {
        }

        /** A value of a type, whose numbers are still to be set with withNumber. */
        static int ofType(int type) {
            return type << (BITS * MATRIX);
        }

        static int typeIn(int value) {
            return value >> (BITS * MATRIX);
        }

        static int withNumber(int value, int i, int instruction) {
            return value | instruction << (BITS * i);
        }

        static int number(int value, int i) {
            return (value >> (BITS * i)) & MASK;
        }

        /** Number i, or the only number of a value of type 1, which goes with each of another's. */
        static int spread(int value, int i) {
            return number(value, typeIn(value) == NUMBER ? 0 : i);
        }
    }

    /**
     * Reads a text from left to right and puts down its code. Each method that reads a piece of the
     * grammar answers the piece's value, or NONE where the text can not be accepted.
     */
    private static final class Compiler {
        private final int[] variables = new int[LETTERS];
        private char[] text = new char[0];
        private int length = 0;
        private int at = 0;
        // A text that is not accepted must leave the object's code alone, so this is another one.
        private Code code = new Code();

        /** Hands over the code of the text just accepted; the old one serves for the next text. */
        Code exchange(Code old) {
            Code accepted = code;
            code = old;
            return accepted;
        }

        boolean accepts(char[] newText, int newLength) {
            start(newText, newLength);
            for (int turn = 0; turn < MOST_CHARACTERS && isAssignmentNext(); turn++) {
                if (!assignment()) {
                    return false;
                }
            }
            int picture = sum(0);
            if (picture == NONE || at != length || Value.typeIn(picture) != VECTOR_3 || code.isTooLong) {
                return false;
            }
            finish(picture);
            return true;
        }

        private void start(char[] newText, int newLength) {
            text = newText;
            length = newLength;
            at = 0;
            code.clear();
            for (int i = 0; i < LETTERS; i++) {
                variables[i] = NONE;
            }
        }

        private void finish(int picture) {
            for (int i = 0; i < VECTOR_3; i++) {
                code.results[i] = Value.number(picture, i);
            }
            for (int i = 0; i < LETTERS; i++) {
                code.variableTypes[i] = variables[i] == NONE ? 0 : Value.typeIn(variables[i]);
            }
        }

        /** The character at the place that is read, 0 behind the text. */
        private char next() {
            return at < length ? text[at] : 0;
        }

        private boolean takes(char wanted) {
            if (next() != wanted) {
                return false;
            }
            at++;
            return true;
        }

        private boolean isAssignmentNext() {
            return at + 1 < length && isSmall(text[at]) && text[at + 1] == '=';
        }

        private boolean assignment() {
            char letter = next();
            at += 2;
            if (!isVariable(letter)) {
                return false;
            }
            int value = sum(0);
            if (value == NONE || !takes(';')) {
                return false;
            }
            variables[letter - 'a'] = value;
            return true;
        }

        private int sum(int open) {
            int left = product(open);
            for (int turn = 0; turn < MOST_CHARACTERS && left != NONE; turn++) {
                if (takes('+')) {
                    left = pairwise(ADD, left, product(open));
                } else if (takes('-')) {
                    left = pairwise(SUB, left, product(open));
                } else {
                    return left;
                }
            }
            return NONE;
        }

        private int product(int open) {
            int left = unit(open);
            for (int turn = 0; turn < MOST_CHARACTERS && left != NONE; turn++) {
                if (takes('*')) {
                    left = times(left, unit(open));
                } else if (takes('/')) {
                    left = dividedBy(left, unit(open));
                } else {
                    return left;
                }
            }
            return NONE;
        }

        private int unit(int open) {
            int signs = 0;
            while (signs < MOST_CHARACTERS && takes('-')) {
                signs++;
            }
            // A constant is no part here, because no dot and letters may stand behind it.
            int value = isDigit(next()) ? constant() : picked(part(open));
            for (int i = 0; i < signs; i++) {
                value = each(NEG, value);
            }
            return value;
        }

        private int part(int open) {
            char first = next();
            if (isSmall(first)) {
                at++;
                return letter(first);
            }
            if (open >= MOST_BRACKETS) {
                return NONE;
            }
            int value;
            if (takes('(')) {
                value = sum(open + 1);
            } else {
                at++;
                value = takes('(') ? function(first, open + 1) : NONE;
            }
            return takes(')') ? value : NONE;
        }

        private int letter(char letter) {
            switch (letter) {
                case 'x':
                    return input(INPUT_X, NUMBER);
                case 'y':
                    return input(INPUT_Y, NUMBER);
                case 't':
                    return input(INPUT_T, NUMBER);
                case 'c':
                    return input(INPUT_COLOR, VECTOR_3);
                default:
                    return variables[letter - 'a'];
            }
        }

        private int input(int first, int type) {
            int value = Value.ofType(type);
            for (int i = 0; i < type; i++) {
                value = Value.withNumber(value, i, code.put(INPUT, first + i, 0));
            }
            return value;
        }

        private int constant() {
            int whole = 0;
            for (int i = 0; i < 4 && isDigit(next()); i++) {
                whole = whole * 10 + digit();
            }
            int scale = 1;
            int fraction = 0;
            if (takes('.')) {
                for (int i = 0; i < 4 && isDigit(next()); i++) {
                    fraction = fraction * 10 + digit();
                    scale *= 10;
                }
                if (scale == 1) {
                    return NONE;
                }
            }
            int number = whole * ONE + fraction * ONE / scale;
            return Value.withNumber(Value.ofType(NUMBER), 0, code.put(CONSTANT, number, 0));
        }

        private int digit() {
            int digit = next() - '0';
            at++;
            return digit;
        }

        /** The value itself, or the numbers of it that a dot and letters behind it pick. */
        private int picked(int value) {
            if (value == NONE || !takes('.')) {
                return value;
            }
            int letters = 0;
            while (letters < VECTOR_3 && at + letters < length && isPlace(text[at + letters])) {
                letters++;
            }
            if (letters == 0 || Value.typeIn(value) == MATRIX) {
                return NONE;
            }
            int made = Value.ofType(letters);
            for (int i = 0; i < letters; i++) {
                int place = text[at + i] - 'x';
                if (place >= Value.typeIn(value)) {
                    return NONE;
                }
                made = Value.withNumber(made, i, Value.number(value, place));
            }
            at += letters;
            return made;
        }

        private int function(char name, int open) {
            switch (name) {
                case 'A':
                    return each(ABS, sum(open));
                case 'F':
                    return each(FLOOR, sum(open));
                case 'V':
                    return vector(open);
                default:
                    return functionOfTwo(name, open);
            }
        }

        private int functionOfTwo(char name, int open) {
            int first = sum(open);
            int second = takes(',') ? sum(open) : NONE;
            switch (name) {
                case 'N':
                    return pairwise(MIN, first, second);
                case 'X':
                    return pairwise(MAX, first, second);
                case 'S':
                    return pairwise(STEP, first, second);
                case 'D':
                    return dotted(first, second);
                case 'M':
                    return matrix(first, second);
                default:
                    return NONE;
            }
        }

        private int vector(int open) {
            int value = sum(open);
            for (int more = 0; more < 2 && takes(','); more++) {
                value = joined(value, sum(open));
            }
            if (value == NONE || Value.typeIn(value) == NUMBER || Value.typeIn(value) == MATRIX) {
                return NONE;
            }
            return value;
        }

        private int matrix(int first, int second) {
            if (first == NONE || second == NONE) {
                return NONE;
            }
            if (Value.typeIn(first) != VECTOR_2 || Value.typeIn(second) != VECTOR_2) {
                return NONE;
            }
            return behindEachOther(first, second);
        }

        private int joined(int first, int second) {
            if (first == NONE || second == NONE || Value.typeIn(first) + Value.typeIn(second) > VECTOR_3) {
                return NONE;
            }
            return behindEachOther(first, second);
        }

        private static int behindEachOther(int first, int second) {
            int firsts = Value.typeIn(first);
            int seconds = Value.typeIn(second);
            int made = Value.ofType(firsts + seconds);
            for (int i = 0; i < firsts; i++) {
                made = Value.withNumber(made, i, Value.number(first, i));
            }
            for (int i = 0; i < seconds; i++) {
                made = Value.withNumber(made, firsts + i, Value.number(second, i));
            }
            return made;
        }

        private int each(int kind, int value) {
            if (value == NONE) {
                return NONE;
            }
            int made = Value.ofType(Value.typeIn(value));
            for (int i = 0; i < Value.typeIn(value); i++) {
                made = Value.withNumber(made, i, code.put(kind, Value.number(value, i), 0));
            }
            return made;
        }

        private int pairwise(int kind, int left, int right) {
            if (left == NONE || right == NONE) {
                return NONE;
            }
            int leftType = Value.typeIn(left);
            int rightType = Value.typeIn(right);
            if (leftType != rightType && leftType != NUMBER && rightType != NUMBER) {
                return NONE;
            }
            int type = Math.max(leftType, rightType);
            int made = Value.ofType(type);
            for (int i = 0; i < type; i++) {
                int instruction = code.put(kind, Value.spread(left, i), Value.spread(right, i));
                made = Value.withNumber(made, i, instruction);
            }
            return made;
        }

        private int times(int left, int right) {
            if (left == NONE || right == NONE) {
                return NONE;
            }
            int rightType = Value.typeIn(right);
            if (Value.typeIn(left) == MATRIX && (rightType == VECTOR_2 || rightType == MATRIX)) {
                return timesColumns(left, right);
            }
            return pairwise(MUL, left, right);
        }

        /** A matrix times each column of the right value: a vector of two is one, a matrix has two. */
        private int timesColumns(int matrix, int right) {
            int type = Value.typeIn(right);
            int made = Value.ofType(type);
            for (int top = 0; top + 1 < type; top += 2) {
                for (int row = 0; row < 2; row++) {
                    int first = code.put(MUL, Value.number(matrix, row), Value.number(right, top));
                    int second = code.put(MUL, Value.number(matrix, 2 + row), Value.number(right, top + 1));
                    made = Value.withNumber(made, top + row, code.put(ADD, first, second));
                }
            }
            return made;
        }

        private int dividedBy(int left, int right) {
            if (right == NONE || Value.typeIn(right) == MATRIX) {
                return NONE;
            }
            return pairwise(DIV, left, right);
        }

        private int dotted(int left, int right) {
            if (left == NONE || right == NONE) {
                return NONE;
            }
            int type = Value.typeIn(left);
            if (type != Value.typeIn(right) || type == MATRIX) {
                return NONE;
            }
            int total = code.put(MUL, Value.number(left, 0), Value.number(right, 0));
            for (int i = 1; i < type; i++) {
                int product = code.put(MUL, Value.number(left, i), Value.number(right, i));
                total = code.put(ADD, total, product);
            }
            return Value.withNumber(Value.ofType(NUMBER), 0, total);
        }

        private static boolean isDigit(char character) {
            return character >= '0' && character <= '9';
        }

        private static boolean isSmall(char character) {
            return character >= 'a' && character <= 'z';
        }

        private static boolean isPlace(char character) {
            return character >= 'x' && character <= 'z';
        }

        private static boolean isVariable(char letter) {
            return !isPlace(letter) && letter != 't' && letter != 'c';
        }
    }
}
