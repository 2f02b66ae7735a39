import java.math.BigInteger;
import java.util.ArrayList;
import java.util.HashMap;
import java.util.LinkedHashMap;
import java.util.List;
import java.util.Map;
import java.util.regex.Matcher;
import java.util.regex.Pattern;

/**
 * The language a second time, built in another way: it cuts a text into smaller ones at its operators
 * instead of reading from left to right, and works over any algebra: one whose elements are the
 * instructions of the code, and one whose elements are exact numbers.
 */
final class Oracle<T> {
    /** What the single numbers of the language are. */
    interface Algebra<T> {
        T constant(int value);

        T input(int which);

        /** The second operand is null for NEG, ABS and FLOOR. */
        T operation(String kind, T first, T second);
    }

    static final class Refused extends RuntimeException {
        private static final long serialVersionUID = 1L;
    }

    private static final Pattern CONSTANT = Pattern.compile("(\\d{1,4})(\\.(\\d{1,4}))?");
    private static final Pattern PICKED = Pattern.compile("(.*)\\.([xyz]{1,3})");
    private static final Pattern FUNCTION = Pattern.compile("([A-Z])\\((.*)\\)");
    private static final Pattern GIVEN = Pattern.compile("([abd-su-w])=(.*)");

    final Map<Character, List<T>> variables = new HashMap<>();
    private final Algebra<T> algebra;

    Oracle(Algebra<T> algebra) {
        this.algebra = algebra;
    }

    /** The three numbers of a text's result. */
    List<T> program(String text) {
        checkBrackets(text);
        String[] sums = text.split(";", -1);
        for (int i = 0; i + 1 < sums.length; i++) {
            Matcher given = GIVEN.matcher(sums[i]);
            need(given.matches());
            variables.put(given.group(1).charAt(0), sum(given.group(2)));
        }
        List<T> result = sum(sums[sums.length - 1]);
        need(result.size() == 3);
        return result;
    }

    private static void need(boolean right) {
        if (!right) {
            throw new Refused();
        }
    }

    private static void checkBrackets(String text) {
        int open = 0;
        for (char character : text.toCharArray()) {
            open += character == '(' ? 1 : character == ')' ? -1 : 0;
            need(open >= 0 && open <= 5);
        }
        need(open == 0);
    }

    /** The last place outside of brackets where one of two operators stands between operands. */
    private static int lastOperator(String text, String operators) {
        int open = 0;
        int found = -1;
        for (int i = 0; i < text.length(); i++) {
            char character = text.charAt(i);
            open += character == '(' ? 1 : character == ')' ? -1 : 0;
            need(open >= 0);
            boolean between = i > 0 && "+-*/".indexOf(text.charAt(i - 1)) < 0;
            if (open == 0 && between && operators.indexOf(character) >= 0) {
                found = i;
            }
        }
        need(open == 0);
        return found;
    }

    private List<T> sum(String text) {
        int at = lastOperator(text, "+-");
        if (at < 0) {
            return product(text);
        }
        List<T> left = sum(text.substring(0, at));
        List<T> right = product(text.substring(at + 1));
        return pairs(text.charAt(at) == '+' ? "ADD" : "SUB", left, right);
    }

    private List<T> product(String text) {
        int at = lastOperator(text, "*/");
        if (at < 0) {
            return unit(text);
        }
        List<T> left = product(text.substring(0, at));
        List<T> right = unit(text.substring(at + 1));
        if (text.charAt(at) == '/') {
            need(right.size() != 4);
            return pairs("DIV", left, right);
        }
        if (left.size() == 4 && right.size() == 2) {
            return column(left, right);
        }
        if (left.size() == 4 && right.size() == 4) {
            List<T> made = new ArrayList<>(column(left, right.subList(0, 2)));
            made.addAll(column(left, right.subList(2, 4)));
            return made;
        }
        return pairs("MUL", left, right);
    }

    private List<T> column(List<T> matrix, List<T> vector) {
        List<T> made = new ArrayList<>();
        for (int row = 0; row < 2; row++) {
            T first = algebra.operation("MUL", matrix.get(row), vector.get(0));
            T second = algebra.operation("MUL", matrix.get(row + 2), vector.get(1));
            made.add(algebra.operation("ADD", first, second));
        }
        return made;
    }

    private List<T> pairs(String kind, List<T> left, List<T> right) {
        need(left.size() == right.size() || left.size() == 1 || right.size() == 1);
        List<T> made = new ArrayList<>();
        for (int i = 0; i < Math.max(left.size(), right.size()); i++) {
            T first = left.size() == 1 ? left.get(0) : left.get(i);
            T second = right.size() == 1 ? right.get(0) : right.get(i);
            made.add(algebra.operation(kind, first, second));
        }
        return made;
    }

    private List<T> singles(String kind, List<T> value) {
        List<T> made = new ArrayList<>();
        for (T number : value) {
            made.add(algebra.operation(kind, number, null));
        }
        return made;
    }

    private List<T> unit(String text) {
        if (text.startsWith("-")) {
            return singles("NEG", unit(text.substring(1)));
        }
        Matcher constant = CONSTANT.matcher(text);
        if (constant.matches()) {
            String digits = constant.group(3) == null ? "" : constant.group(3);
            BigInteger scaled = new BigInteger(constant.group(1) + digits).shiftLeft(16);
            return List.of(algebra.constant(scaled.divide(BigInteger.TEN.pow(digits.length())).intValueExact()));
        }
        Matcher picked = PICKED.matcher(text);
        if (!picked.matches()) {
            return part(text);
        }
        List<T> value = part(picked.group(1));
        need(value.size() <= 3);
        List<T> made = new ArrayList<>();
        for (char letter : picked.group(2).toCharArray()) {
            need(letter - 'x' < value.size());
            made.add(value.get(letter - 'x'));
        }
        return made;
    }

    private List<T> part(String text) {
        if (text.length() == 1) {
            return letter(text.charAt(0));
        }
        if (text.startsWith("(")) {
            need(text.endsWith(")"));
            return sum(text.substring(1, text.length() - 1));
        }
        Matcher function = FUNCTION.matcher(text);
        need(function.matches());
        List<List<T>> arguments = new ArrayList<>();
        for (String argument : cutAtCommas(function.group(2))) {
            arguments.add(sum(argument));
        }
        return function(function.group(1) + arguments.size(), arguments);
    }

    private static List<String> cutAtCommas(String text) {
        List<String> pieces = new ArrayList<>();
        int open = 0;
        int start = 0;
        for (int i = 0; i < text.length(); i++) {
            char character = text.charAt(i);
            open += character == '(' ? 1 : character == ')' ? -1 : 0;
            if (character == ',' && open == 0) {
                pieces.add(text.substring(start, i));
                start = i + 1;
            }
        }
        pieces.add(text.substring(start));
        return pieces;
    }

    private List<T> letter(char letter) {
        int simple = "xyt".indexOf(letter);
        if (simple >= 0) {
            return List.of(algebra.input(simple));
        }
        if (letter == 'c') {
            return List.of(algebra.input(3), algebra.input(4), algebra.input(5));
        }
        need(variables.containsKey(letter));
        return variables.get(letter);
    }

    private List<T> function(String nameAndCount, List<List<T>> arguments) {
        List<T> first = arguments.get(0);
        List<T> second = arguments.size() > 1 ? arguments.get(1) : first;
        switch (nameAndCount) {
            case "A1": return singles("ABS", first);
            case "F1": return singles("FLOOR", first);
            case "N2": return pairs("MIN", first, second);
            case "X2": return pairs("MAX", first, second);
            case "S2": return pairs("STEP", first, second);
            case "D2": return dotted(first, second);
            case "M2":
                need(first.size() == 2 && second.size() == 2);
                return allOf(arguments);
            case "V1":
            case "V2":
            case "V3":
                List<T> all = allOf(arguments);
                need(all.size() == 2 || all.size() == 3);
                return all;
            default: throw new Refused();
        }
    }

    private List<T> dotted(List<T> first, List<T> second) {
        need(first.size() == second.size() && first.size() <= 3);
        T total = algebra.operation("MUL", first.get(0), second.get(0));
        for (int i = 1; i < first.size(); i++) {
            total = algebra.operation("ADD", total, algebra.operation("MUL", first.get(i), second.get(i)));
        }
        return List.of(total);
    }

    private List<T> allOf(List<List<T>> values) {
        List<T> all = new ArrayList<>();
        for (List<T> value : values) {
            all.addAll(value);
        }
        return all;
    }

    /** The elements are places in a row of instructions, each of them there once. */
    static final class Instructions implements Algebra<Integer> {
        final Map<String, Integer> row = new LinkedHashMap<>();

        private int place(String instruction) {
            return row.computeIfAbsent(instruction, absent -> row.size());
        }

        @Override
        public Integer constant(int value) {
            return place("CONSTANT " + value + " 0");
        }

        @Override
        public Integer input(int which) {
            return place("INPUT " + which + " 0");
        }

        @Override
        public Integer operation(String kind, Integer first, Integer second) {
            return place(kind + " " + first + " " + (second == null ? 0 : second));
        }
    }

    /** The elements are whole numbers of 65536ths without a limit, saturated behind each operation. */
    static final class Exact implements Algebra<BigInteger> {
        private static final BigInteger ONE = BigInteger.valueOf(65536);
        private static final BigInteger MOST = BigInteger.valueOf(Integer.MAX_VALUE);
        private static final BigInteger LEAST = BigInteger.valueOf(Integer.MIN_VALUE);
        private final int[] inputs;

        Exact(int... inputs) {
            this.inputs = inputs;
        }

        @Override
        public BigInteger constant(int value) {
            return BigInteger.valueOf(value);
        }

        @Override
        public BigInteger input(int which) {
            return BigInteger.valueOf(inputs[which]);
        }

        @Override
        public BigInteger operation(String kind, BigInteger a, BigInteger b) {
            return unlimited(kind, a, b).max(LEAST).min(MOST);
        }

        private static BigInteger unlimited(String kind, BigInteger a, BigInteger b) {
            switch (kind) {
                case "ADD": return a.add(b);
                case "SUB": return a.subtract(b);
                case "MUL": return floored(a.multiply(b)).divide(ONE);
                case "DIV": return divided(a, b);
                case "MIN": return a.min(b);
                case "MAX": return a.max(b);
                case "STEP": return a.compareTo(b) <= 0 ? ONE : BigInteger.ZERO;
                case "NEG": return a.negate();
                case "ABS": return a.abs();
                case "FLOOR": return floored(a);
                default: throw new IllegalArgumentException(kind);
            }
        }

        private static BigInteger floored(BigInteger number) {
            return number.subtract(number.mod(ONE));
        }

        private static BigInteger divided(BigInteger a, BigInteger b) {
            if (b.signum() != 0) {
                return a.multiply(ONE).divide(b);
            }
            return a.signum() > 0 ? MOST : a.signum() < 0 ? LEAST : BigInteger.ZERO;
        }
    }
}
